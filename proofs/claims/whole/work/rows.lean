section
/-- a private method of a class that the tables say can be made, by its rows of tables_1 -/
def lw_okq (q : MethodName × Nat) : Prop := (q.1.cls ≠ "java/lang/invoke/MethodHandle" ∧ q.1.cls ≠ "java/lang/invoke/VarHandle") ∧ Cond.instantiable q.1.cls q.2 ∈ tables_1 ∧ Cond.privateMethod q.1 ∈ tables_1 ∧ Cond.instanceMethod q.1 ∈ tables_1
theorem lw_p0 : lw_okq (⟨"EdgeStencil$Reader", "readItem", "(LEdgeStencil$Script;I)I"⟩, 3) := ⟨⟨by decide +kernel, by decide +kernel⟩, List.mem_of_getElem? (i := 45) (by decide +kernel), List.mem_of_getElem? (i := 356) (by decide +kernel), List.mem_of_getElem? (i := 357) (by decide +kernel)⟩
theorem lw_p1 : lw_okq (⟨"EdgeStencil$Reader", "readGrid", "(LEdgeStencil$Script;I)I"⟩, 3) := ⟨⟨by decide +kernel, by decide +kernel⟩, List.mem_of_getElem? (i := 45) (by decide +kernel), List.mem_of_getElem? (i := 364) (by decide +kernel), List.mem_of_getElem? (i := 365) (by decide +kernel)⟩
theorem lw_p2 : lw_okq (⟨"EdgeStencil$Reader", "readRow", "(LEdgeStencil$Script;I)I"⟩, 3) := ⟨⟨by decide +kernel, by decide +kernel⟩, List.mem_of_getElem? (i := 45) (by decide +kernel), List.mem_of_getElem? (i := 374) (by decide +kernel), List.mem_of_getElem? (i := 375) (by decide +kernel)⟩
theorem lw_p3 : lw_okq (⟨"EdgeStencil$Reader", "readDot", "(LEdgeStencil$Script;I)I"⟩, 3) := ⟨⟨by decide +kernel, by decide +kernel⟩, List.mem_of_getElem? (i := 45) (by decide +kernel), List.mem_of_getElem? (i := 378) (by decide +kernel), List.mem_of_getElem? (i := 379) (by decide +kernel)⟩
theorem lw_p4 : lw_okq (⟨"EdgeStencil$Reader", "readMetric", "(LEdgeStencil$Script;I)I"⟩, 3) := ⟨⟨by decide +kernel, by decide +kernel⟩, List.mem_of_getElem? (i := 45) (by decide +kernel), List.mem_of_getElem? (i := 390) (by decide +kernel), List.mem_of_getElem? (i := 391) (by decide +kernel)⟩
theorem lw_p5 : lw_okq (⟨"EdgeStencil", "lookAt", "(III)V"⟩, 15) := ⟨⟨by decide +kernel, by decide +kernel⟩, List.mem_of_getElem? (i := 21) (by decide +kernel), List.mem_of_getElem? (i := 461) (by decide +kernel), List.mem_of_getElem? (i := 462) (by decide +kernel)⟩
theorem lw_p6 : lw_okq (⟨"EdgeStencil", "makeStale", "()V"⟩, 15) := ⟨⟨by decide +kernel, by decide +kernel⟩, List.mem_of_getElem? (i := 21) (by decide +kernel), List.mem_of_getElem? (i := 465) (by decide +kernel), List.mem_of_getElem? (i := 466) (by decide +kernel)⟩
theorem lw_p7 : lw_okq (⟨"EdgeStencil", "startChange", "()V"⟩, 15) := ⟨⟨by decide +kernel, by decide +kernel⟩, List.mem_of_getElem? (i := 21) (by decide +kernel), List.mem_of_getElem? (i := 493) (by decide +kernel), List.mem_of_getElem? (i := 494) (by decide +kernel)⟩
theorem lw_p8 : lw_okq (⟨"EdgeStencil", "isDot", "(I)Z"⟩, 15) := ⟨⟨by decide +kernel, by decide +kernel⟩, List.mem_of_getElem? (i := 21) (by decide +kernel), List.mem_of_getElem? (i := 519) (by decide +kernel), List.mem_of_getElem? (i := 520) (by decide +kernel)⟩
theorem lw_p9 : lw_okq (⟨"EdgeStencil", "freshField", "()LEdgeStencil$Field;"⟩, 15) := ⟨⟨by decide +kernel, by decide +kernel⟩, List.mem_of_getElem? (i := 21) (by decide +kernel), List.mem_of_getElem? (i := 547) (by decide +kernel), List.mem_of_getElem? (i := 548) (by decide +kernel)⟩
theorem lw_p10 : lw_okq (⟨"EdgeStencil$Field", "start", "(LEdgeStencil$Scene;)V"⟩, 3) := ⟨⟨by decide +kernel, by decide +kernel⟩, List.mem_of_getElem? (i := 160) (by decide +kernel), List.mem_of_getElem? (i := 555) (by decide +kernel), List.mem_of_getElem? (i := 556) (by decide +kernel)⟩
theorem lw_p11 : lw_okq (⟨"EdgeStencil$Field", "stepTo", "(IIII)V"⟩, 3) := ⟨⟨by decide +kernel, by decide +kernel⟩, List.mem_of_getElem? (i := 160) (by decide +kernel), List.mem_of_getElem? (i := 568) (by decide +kernel), List.mem_of_getElem? (i := 569) (by decide +kernel)⟩
theorem lw_p12 : lw_okq (⟨"EdgeStencil", "lookedAt", "()LEdgeStencil$Shape;"⟩, 15) := ⟨⟨by decide +kernel, by decide +kernel⟩, List.mem_of_getElem? (i := 21) (by decide +kernel), List.mem_of_getElem? (i := 609) (by decide +kernel), List.mem_of_getElem? (i := 610) (by decide +kernel)⟩
theorem lw_p13 : lw_okq (⟨"EdgeStencil$Shape", "findBox", "()V"⟩, 7) := ⟨⟨by decide +kernel, by decide +kernel⟩, List.mem_of_getElem? (i := 185) (by decide +kernel), List.mem_of_getElem? (i := 620) (by decide +kernel), List.mem_of_getElem? (i := 621) (by decide +kernel)⟩
theorem lw_p14 : lw_okq (⟨"EdgeStencil", "freshRanking", "()LEdgeStencil$Ranking;"⟩, 15) := ⟨⟨by decide +kernel, by decide +kernel⟩, List.mem_of_getElem? (i := 21) (by decide +kernel), List.mem_of_getElem? (i := 671) (by decide +kernel), List.mem_of_getElem? (i := 672) (by decide +kernel)⟩
theorem lw_p15 : lw_okq (⟨"EdgeStencil$Ranking", "enter", "(II)V"⟩, 9) := ⟨⟨by decide +kernel, by decide +kernel⟩, List.mem_of_getElem? (i := 179) (by decide +kernel), List.mem_of_getElem? (i := 694) (by decide +kernel), List.mem_of_getElem? (i := 695) (by decide +kernel)⟩
def lw_privs_1 : List (MethodName × Nat) := [(⟨"EdgeStencil$Reader", "readItem", "(LEdgeStencil$Script;I)I"⟩, 3), (⟨"EdgeStencil$Reader", "readGrid", "(LEdgeStencil$Script;I)I"⟩, 3), (⟨"EdgeStencil$Reader", "readRow", "(LEdgeStencil$Script;I)I"⟩, 3), (⟨"EdgeStencil$Reader", "readDot", "(LEdgeStencil$Script;I)I"⟩, 3), (⟨"EdgeStencil$Reader", "readMetric", "(LEdgeStencil$Script;I)I"⟩, 3), (⟨"EdgeStencil", "lookAt", "(III)V"⟩, 15), (⟨"EdgeStencil", "makeStale", "()V"⟩, 15), (⟨"EdgeStencil", "startChange", "()V"⟩, 15), (⟨"EdgeStencil", "isDot", "(I)Z"⟩, 15), (⟨"EdgeStencil", "freshField", "()LEdgeStencil$Field;"⟩, 15), (⟨"EdgeStencil$Field", "start", "(LEdgeStencil$Scene;)V"⟩, 3), (⟨"EdgeStencil$Field", "stepTo", "(IIII)V"⟩, 3), (⟨"EdgeStencil", "lookedAt", "()LEdgeStencil$Shape;"⟩, 15), (⟨"EdgeStencil$Shape", "findBox", "()V"⟩, 7), (⟨"EdgeStencil", "freshRanking", "()LEdgeStencil$Ranking;"⟩, 15), (⟨"EdgeStencil$Ranking", "enter", "(II)V"⟩, 9)]
theorem lw_r1 : ∀ q ∈ lw_privs_1, lw_okq q := List.forall_mem_cons.mpr ⟨lw_p0, List.forall_mem_cons.mpr ⟨lw_p1, List.forall_mem_cons.mpr ⟨lw_p2, List.forall_mem_cons.mpr ⟨lw_p3, List.forall_mem_cons.mpr ⟨lw_p4, List.forall_mem_cons.mpr ⟨lw_p5, List.forall_mem_cons.mpr ⟨lw_p6, List.forall_mem_cons.mpr ⟨lw_p7, List.forall_mem_cons.mpr ⟨lw_p8, List.forall_mem_cons.mpr ⟨lw_p9, List.forall_mem_cons.mpr ⟨lw_p10, List.forall_mem_cons.mpr ⟨lw_p11, List.forall_mem_cons.mpr ⟨lw_p12, List.forall_mem_cons.mpr ⟨lw_p13, List.forall_mem_cons.mpr ⟨lw_p14, List.forall_mem_cons.mpr ⟨lw_p15, fun _ h => absurd h List.not_mem_nil⟩⟩⟩⟩⟩⟩⟩⟩⟩⟩⟩⟩⟩⟩⟩⟩
theorem lw_p16 : lw_okq (⟨"EdgeStencil$Ranking", "firstOpen", "()I"⟩, 9) := ⟨⟨by decide +kernel, by decide +kernel⟩, List.mem_of_getElem? (i := 179) (by decide +kernel), List.mem_of_getElem? (i := 716) (by decide +kernel), List.mem_of_getElem? (i := 717) (by decide +kernel)⟩
theorem lw_p17 : lw_okq (⟨"EdgeStencil$Ranking", "closeAround", "(III)V"⟩, 9) := ⟨⟨by decide +kernel, by decide +kernel⟩, List.mem_of_getElem? (i := 179) (by decide +kernel), List.mem_of_getElem? (i := 721) (by decide +kernel), List.mem_of_getElem? (i := 722) (by decide +kernel)⟩
theorem lw_p18 : lw_okq (⟨"EdgeStencil", "takeFirst", "(II)I"⟩, 15) := ⟨⟨by decide +kernel, by decide +kernel⟩, List.mem_of_getElem? (i := 21) (by decide +kernel), List.mem_of_getElem? (i := 730) (by decide +kernel), List.mem_of_getElem? (i := 731) (by decide +kernel)⟩
theorem lw_p19 : lw_okq (⟨"EdgeStencilModel", "reads", "()I"⟩, 27) := ⟨⟨by decide +kernel, by decide +kernel⟩, List.mem_of_getElem? (i := 754) (by decide +kernel), List.mem_of_getElem? (i := 863) (by decide +kernel), List.mem_of_getElem? (i := 864) (by decide +kernel)⟩
theorem lw_p20 : lw_okq (⟨"EdgeStencilModel", "readsItem", "(I)I"⟩, 27) := ⟨⟨by decide +kernel, by decide +kernel⟩, List.mem_of_getElem? (i := 754) (by decide +kernel), List.mem_of_getElem? (i := 867) (by decide +kernel), List.mem_of_getElem? (i := 868) (by decide +kernel)⟩
theorem lw_p21 : lw_okq (⟨"EdgeStencilModel", "letter", "(I)I"⟩, 27) := ⟨⟨by decide +kernel, by decide +kernel⟩, List.mem_of_getElem? (i := 754) (by decide +kernel), List.mem_of_getElem? (i := 871) (by decide +kernel), List.mem_of_getElem? (i := 872) (by decide +kernel)⟩
theorem lw_p22 : lw_okq (⟨"EdgeStencilModel", "readsGrid", "(I)Z"⟩, 27) := ⟨⟨by decide +kernel, by decide +kernel⟩, List.mem_of_getElem? (i := 754) (by decide +kernel), List.mem_of_getElem? (i := 875) (by decide +kernel), List.mem_of_getElem? (i := 876) (by decide +kernel)⟩
theorem lw_p23 : lw_okq (⟨"EdgeStencilModel", "readsRow", "(I)Z"⟩, 27) := ⟨⟨by decide +kernel, by decide +kernel⟩, List.mem_of_getElem? (i := 754) (by decide +kernel), List.mem_of_getElem? (i := 882) (by decide +kernel), List.mem_of_getElem? (i := 883) (by decide +kernel)⟩
theorem lw_p24 : lw_okq (⟨"EdgeStencilModel", "readsDot", "(I)Z"⟩, 27) := ⟨⟨by decide +kernel, by decide +kernel⟩, List.mem_of_getElem? (i := 754) (by decide +kernel), List.mem_of_getElem? (i := 886) (by decide +kernel), List.mem_of_getElem? (i := 887) (by decide +kernel)⟩
theorem lw_p25 : lw_okq (⟨"EdgeStencilModel", "readsMeasure", "(I)Z"⟩, 27) := ⟨⟨by decide +kernel, by decide +kernel⟩, List.mem_of_getElem? (i := 754) (by decide +kernel), List.mem_of_getElem? (i := 893) (by decide +kernel), List.mem_of_getElem? (i := 894) (by decide +kernel)⟩
theorem lw_p26 : lw_okq (⟨"EdgeStencilModel", "edges", "()I"⟩, 27) := ⟨⟨by decide +kernel, by decide +kernel⟩, List.mem_of_getElem? (i := 754) (by decide +kernel), List.mem_of_getElem? (i := 901) (by decide +kernel), List.mem_of_getElem? (i := 902) (by decide +kernel)⟩
theorem lw_p27 : lw_okq (⟨"EdgeStencilModel", "isCell", "(II)Z"⟩, 27) := ⟨⟨by decide +kernel, by decide +kernel⟩, List.mem_of_getElem? (i := 754) (by decide +kernel), List.mem_of_getElem? (i := 913) (by decide +kernel), List.mem_of_getElem? (i := 914) (by decide +kernel)⟩
theorem lw_p28 : lw_okq (⟨"EdgeStencilModel", "remembers", "()V"⟩, 27) := ⟨⟨by decide +kernel, by decide +kernel⟩, List.mem_of_getElem? (i := 754) (by decide +kernel), List.mem_of_getElem? (i := 917) (by decide +kernel), List.mem_of_getElem? (i := 918) (by decide +kernel)⟩
theorem lw_p29 : lw_okq (⟨"EdgeStencilModel", "isDot", "(I)Z"⟩, 27) := ⟨⟨by decide +kernel, by decide +kernel⟩, List.mem_of_getElem? (i := 754) (by decide +kernel), List.mem_of_getElem? (i := 929) (by decide +kernel), List.mem_of_getElem? (i := 930) (by decide +kernel)⟩
theorem lw_p30 : lw_okq (⟨"EdgeStencilModel", "farOf", "(II)I"⟩, 27) := ⟨⟨by decide +kernel, by decide +kernel⟩, List.mem_of_getElem? (i := 754) (by decide +kernel), List.mem_of_getElem? (i := 945) (by decide +kernel), List.mem_of_getElem? (i := 946) (by decide +kernel)⟩
theorem lw_p31 : lw_okq (⟨"EdgeStencilModel", "nearestOf", "(II)I"⟩, 27) := ⟨⟨by decide +kernel, by decide +kernel⟩, List.mem_of_getElem? (i := 754) (by decide +kernel), List.mem_of_getElem? (i := 949) (by decide +kernel), List.mem_of_getElem? (i := 950) (by decide +kernel)⟩
def lw_privs_2 : List (MethodName × Nat) := [(⟨"EdgeStencil$Ranking", "firstOpen", "()I"⟩, 9), (⟨"EdgeStencil$Ranking", "closeAround", "(III)V"⟩, 9), (⟨"EdgeStencil", "takeFirst", "(II)I"⟩, 15), (⟨"EdgeStencilModel", "reads", "()I"⟩, 27), (⟨"EdgeStencilModel", "readsItem", "(I)I"⟩, 27), (⟨"EdgeStencilModel", "letter", "(I)I"⟩, 27), (⟨"EdgeStencilModel", "readsGrid", "(I)Z"⟩, 27), (⟨"EdgeStencilModel", "readsRow", "(I)Z"⟩, 27), (⟨"EdgeStencilModel", "readsDot", "(I)Z"⟩, 27), (⟨"EdgeStencilModel", "readsMeasure", "(I)Z"⟩, 27), (⟨"EdgeStencilModel", "edges", "()I"⟩, 27), (⟨"EdgeStencilModel", "isCell", "(II)Z"⟩, 27), (⟨"EdgeStencilModel", "remembers", "()V"⟩, 27), (⟨"EdgeStencilModel", "isDot", "(I)Z"⟩, 27), (⟨"EdgeStencilModel", "farOf", "(II)I"⟩, 27), (⟨"EdgeStencilModel", "nearestOf", "(II)I"⟩, 27)]
theorem lw_r2 : ∀ q ∈ lw_privs_2, lw_okq q := List.forall_mem_cons.mpr ⟨lw_p16, List.forall_mem_cons.mpr ⟨lw_p17, List.forall_mem_cons.mpr ⟨lw_p18, List.forall_mem_cons.mpr ⟨lw_p19, List.forall_mem_cons.mpr ⟨lw_p20, List.forall_mem_cons.mpr ⟨lw_p21, List.forall_mem_cons.mpr ⟨lw_p22, List.forall_mem_cons.mpr ⟨lw_p23, List.forall_mem_cons.mpr ⟨lw_p24, List.forall_mem_cons.mpr ⟨lw_p25, List.forall_mem_cons.mpr ⟨lw_p26, List.forall_mem_cons.mpr ⟨lw_p27, List.forall_mem_cons.mpr ⟨lw_p28, List.forall_mem_cons.mpr ⟨lw_p29, List.forall_mem_cons.mpr ⟨lw_p30, List.forall_mem_cons.mpr ⟨lw_p31, fun _ h => absurd h List.not_mem_nil⟩⟩⟩⟩⟩⟩⟩⟩⟩⟩⟩⟩⟩⟩⟩⟩
theorem lw_p32 : lw_okq (⟨"EdgeStencilModel", "apart", "(IIII)I"⟩, 27) := ⟨⟨by decide +kernel, by decide +kernel⟩, List.mem_of_getElem? (i := 754) (by decide +kernel), List.mem_of_getElem? (i := 953) (by decide +kernel), List.mem_of_getElem? (i := 954) (by decide +kernel)⟩
theorem lw_p33 : lw_okq (⟨"EdgeStencilModel", "liesX", "(IIII)I"⟩, 27) := ⟨⟨by decide +kernel, by decide +kernel⟩, List.mem_of_getElem? (i := 754) (by decide +kernel), List.mem_of_getElem? (i := 973) (by decide +kernel), List.mem_of_getElem? (i := 974) (by decide +kernel)⟩
theorem lw_p34 : lw_okq (⟨"EdgeStencilModel", "liesY", "(IIII)I"⟩, 27) := ⟨⟨by decide +kernel, by decide +kernel⟩, List.mem_of_getElem? (i := 754) (by decide +kernel), List.mem_of_getElem? (i := 980) (by decide +kernel), List.mem_of_getElem? (i := 981) (by decide +kernel)⟩
theorem lw_p35 : lw_okq (⟨"EdgeStencilModel", "laysFars", "()V"⟩, 27) := ⟨⟨by decide +kernel, by decide +kernel⟩, List.mem_of_getElem? (i := 754) (by decide +kernel), List.mem_of_getElem? (i := 988) (by decide +kernel), List.mem_of_getElem? (i := 989) (by decide +kernel)⟩
theorem lw_p36 : lw_okq (⟨"EdgeStencilModel", "looks", "(IIIII)Z"⟩, 27) := ⟨⟨by decide +kernel, by decide +kernel⟩, List.mem_of_getElem? (i := 754) (by decide +kernel), List.mem_of_getElem? (i := 992) (by decide +kernel), List.mem_of_getElem? (i := 993) (by decide +kernel)⟩
theorem lw_p37 : lw_okq (⟨"EdgeStencilModel", "toldMany", "(IIIIII)I"⟩, 27) := ⟨⟨by decide +kernel, by decide +kernel⟩, List.mem_of_getElem? (i := 754) (by decide +kernel), List.mem_of_getElem? (i := 1009) (by decide +kernel), List.mem_of_getElem? (i := 1010) (by decide +kernel)⟩
theorem lw_p38 : lw_okq (⟨"EdgeStencilModel", "isTold", "(IIIIIII)Z"⟩, 27) := ⟨⟨by decide +kernel, by decide +kernel⟩, List.mem_of_getElem? (i := 754) (by decide +kernel), List.mem_of_getElem? (i := 1013) (by decide +kernel), List.mem_of_getElem? (i := 1014) (by decide +kernel)⟩
theorem lw_p39 : lw_okq (⟨"EdgeStencilModel", "chosenIs", "(III)I"⟩, 27) := ⟨⟨by decide +kernel, by decide +kernel⟩, List.mem_of_getElem? (i := 754) (by decide +kernel), List.mem_of_getElem? (i := 1021) (by decide +kernel), List.mem_of_getElem? (i := 1022) (by decide +kernel)⟩
theorem lw_p40 : lw_okq (⟨"EdgeStencilModel", "chooses", "(I)V"⟩, 27) := ⟨⟨by decide +kernel, by decide +kernel⟩, List.mem_of_getElem? (i := 754) (by decide +kernel), List.mem_of_getElem? (i := 1025) (by decide +kernel), List.mem_of_getElem? (i := 1026) (by decide +kernel)⟩
theorem lw_p41 : lw_okq (⟨"EdgeStencilModel", "laysRanks", "()V"⟩, 27) := ⟨⟨by decide +kernel, by decide +kernel⟩, List.mem_of_getElem? (i := 754) (by decide +kernel), List.mem_of_getElem? (i := 1029) (by decide +kernel), List.mem_of_getElem? (i := 1030) (by decide +kernel)⟩
theorem lw_p42 : lw_okq (⟨"EdgeStencilModel", "isApart", "(II)Z"⟩, 27) := ⟨⟨by decide +kernel, by decide +kernel⟩, List.mem_of_getElem? (i := 754) (by decide +kernel), List.mem_of_getElem? (i := 1033) (by decide +kernel), List.mem_of_getElem? (i := 1034) (by decide +kernel)⟩
theorem lw_p43 : lw_okq (⟨"EdgeStencilModel", "takeOne", "(II)I"⟩, 27) := ⟨⟨by decide +kernel, by decide +kernel⟩, List.mem_of_getElem? (i := 754) (by decide +kernel), List.mem_of_getElem? (i := 1054) (by decide +kernel), List.mem_of_getElem? (i := 1055) (by decide +kernel)⟩
def lw_privs_3 : List (MethodName × Nat) := [(⟨"EdgeStencilModel", "apart", "(IIII)I"⟩, 27), (⟨"EdgeStencilModel", "liesX", "(IIII)I"⟩, 27), (⟨"EdgeStencilModel", "liesY", "(IIII)I"⟩, 27), (⟨"EdgeStencilModel", "laysFars", "()V"⟩, 27), (⟨"EdgeStencilModel", "looks", "(IIIII)Z"⟩, 27), (⟨"EdgeStencilModel", "toldMany", "(IIIIII)I"⟩, 27), (⟨"EdgeStencilModel", "isTold", "(IIIIIII)Z"⟩, 27), (⟨"EdgeStencilModel", "chosenIs", "(III)I"⟩, 27), (⟨"EdgeStencilModel", "chooses", "(I)V"⟩, 27), (⟨"EdgeStencilModel", "laysRanks", "()V"⟩, 27), (⟨"EdgeStencilModel", "isApart", "(II)Z"⟩, 27), (⟨"EdgeStencilModel", "takeOne", "(II)I"⟩, 27)]
theorem lw_r3 : ∀ q ∈ lw_privs_3, lw_okq q := List.forall_mem_cons.mpr ⟨lw_p32, List.forall_mem_cons.mpr ⟨lw_p33, List.forall_mem_cons.mpr ⟨lw_p34, List.forall_mem_cons.mpr ⟨lw_p35, List.forall_mem_cons.mpr ⟨lw_p36, List.forall_mem_cons.mpr ⟨lw_p37, List.forall_mem_cons.mpr ⟨lw_p38, List.forall_mem_cons.mpr ⟨lw_p39, List.forall_mem_cons.mpr ⟨lw_p40, List.forall_mem_cons.mpr ⟨lw_p41, List.forall_mem_cons.mpr ⟨lw_p42, List.forall_mem_cons.mpr ⟨lw_p43, fun _ h => absurd h List.not_mem_nil⟩⟩⟩⟩⟩⟩⟩⟩⟩⟩⟩⟩
def lw_privs : List (MethodName × Nat) := lw_privs_1 ++ (lw_privs_2 ++ (lw_privs_3))
def lw_tbl : List Cond := k2_sels lw_privs ++ tables_1
theorem lw_privs_ok : ∀ q ∈ lw_privs, lw_okq q := by
  show ∀ q ∈ lw_privs_1 ++ (lw_privs_2 ++ (lw_privs_3)), lw_okq q
  exact List.forall_mem_append.mpr ⟨lw_r1, List.forall_mem_append.mpr ⟨lw_r2, lw_r3⟩⟩
end
section
/-! ===== BEGIN words of one list among another's, by their places ===== -/
theorem goodIn_r {big : List Cond} (ws : List Cond) (ps : List Nat) (hp : ws = ps.filterMap (fun i => big[i]?)) (h : ws.all goodWord = true) : GoodIn big ws := by
  intro w hw
  have h1 := List.all_eq_true.mp h w hw
  rw [hp] at hw
  obtain ⟨i, -, hi⟩ := List.mem_filterMap.mp hw
  have hm : w ∈ big := by first | exact List.mem_of_getElem? hi | exact List.getElem?_mem hi
  exact ⟨hm, good_of_word h1⟩
theorem goodIn_app {big a b : List Cond} (ha : GoodIn big a) (hb : GoodIn big b) : GoodIn big (a ++ b) := fun w h => (List.mem_append.mp h).elim (ha w) (hb w)
theorem goodIn_ca {big a b : List Cond} {c : Cond} (ha : GoodIn big (c :: a)) (hb : GoodIn big b) : GoodIn big (c :: (a ++ b)) := fun w h => (List.mem_cons.mp h).elim (fun e => ha w (List.mem_cons.mpr (Or.inl e))) (fun h => (List.mem_append.mp h).elim (fun h => ha w (List.mem_cons.mpr (Or.inr h))) (hb w))
theorem goodIn_sub {big ws : List Cond} (hm : ∀ w ∈ ws, w ∈ big) (h : ws.all goodWord = true) : GoodIn big ws := fun w hw => ⟨hm w hw, good_of_word (List.all_eq_true.mp h w hw)⟩
/-! ===== END ===== -/

/-! ===== BEGIN printed: names, fields, word lists, decode rows ===== -/
def RX0 : String := "EdgeStencil$Book"
def TX0 : u_T := fun k => match k with
  | 0 => ("EdgeStencil$Book", "ranks", "[I", true)
  | 1 => ("EdgeStencil$Book", "gone", "[I", true)
  | _ => ("EdgeStencil$Book", "size", "I", false)
def tyX0 : Nat → FieldType := fun k => match k with
  | 0 => .array .int
  | 1 => .array .int
  | _ => .int
abbrev wsX00 : List Cond := u_ws RX0 TX0 3
theorem nmX0 : ∀ a, a < 3 → ∀ b, b < 3 → a ≠ b → (TX0 a).2.1 ≠ (TX0 b).2.1 := by decide +kernel
theorem tyX0_ok : ∀ k, k < 3 → parseFieldDescriptor (TX0 k).2.2.1 = some (tyX0 k) := by decide +kernel
abbrev cX0_init : ByteArray := prog_2_method_1_code
def yX0_init : MethodName := ⟨RX0, "<init>", "()V"⟩
abbrev cX0_add : ByteArray := prog_2_method_2_code
def yX0_add : MethodName := ⟨RX0, "add", "(II)V"⟩
def RX1 : String := "EdgeStencil$Field"
def TX1 : u_T := fun k => match k with
  | 0 => ("EdgeStencil$Field", "fars", "[I", true)
  | 1 => ("EdgeStencil$Field", "width", "I", false)
  | _ => ("EdgeStencil$Field", "height", "I", false)
def tyX1 : Nat → FieldType := fun k => match k with
  | 0 => .array .int
  | 1 => .int
  | _ => .int
abbrev wsX10 : List Cond := u_ws RX1 TX1 3
theorem nmX1 : ∀ a, a < 3 → ∀ b, b < 3 → a ≠ b → (TX1 a).2.1 ≠ (TX1 b).2.1 := by decide +kernel
theorem tyX1_ok : ∀ k, k < 3 → parseFieldDescriptor (TX1 k).2.2.1 = some (tyX1 k) := by decide +kernel
abbrev cX1_init : ByteArray := prog_3_method_1_code
def yX1_init : MethodName := ⟨RX1, "<init>", "()V"⟩
abbrev cX1_workOut : ByteArray := prog_3_method_2_code
def yX1_workOut : MethodName := ⟨RX1, "workOut", "(LEdgeStencil$Scene;)V"⟩
abbrev cX1_start : ByteArray := prog_3_method_3_code
def yX1_start : MethodName := ⟨RX1, "start", "(LEdgeStencil$Scene;)V"⟩
abbrev cX1_stepTo : ByteArray := prog_3_method_4_code
def yX1_stepTo : MethodName := ⟨RX1, "stepTo", "(IIII)V"⟩
abbrev cX1_indexOf : ByteArray := prog_3_method_5_code
def yX1_indexOf : MethodName := ⟨RX1, "indexOf", "(II)I"⟩
abbrev cX1_at : ByteArray := prog_3_method_6_code
def yX1_at : MethodName := ⟨RX1, "at", "(II)I"⟩
abbrev cX1_cellsSoFar : ByteArray := prog_3_method_7_code
def yX1_cellsSoFar : MethodName := ⟨RX1, "cellsSoFar", "(I)I"⟩
abbrev cX1_leastIn : ByteArray := prog_3_method_8_code
def yX1_leastIn : MethodName := ⟨RX1, "leastIn", "(IIII)I"⟩
def RX2 : String := "EdgeStencil$Fit"
def TX2 : u_T := fun k => match k with
  | 0 => ("EdgeStencil$Fit", "ill", "I", false)
  | 1 => ("EdgeStencil$Fit", "worst", "I", false)
  | 2 => ("EdgeStencil$Fit", "worstDot", "I", false)
  | _ => ("EdgeStencil$Fit", "onEdges", "I", false)
def tyX2 : Nat → FieldType := fun k => match k with
  | 0 => .int
  | 1 => .int
  | 2 => .int
  | _ => .int
abbrev wsX20 : List Cond := u_ws RX2 TX2 4
theorem nmX2 : ∀ a, a < 4 → ∀ b, b < 4 → a ≠ b → (TX2 a).2.1 ≠ (TX2 b).2.1 := by decide +kernel
theorem tyX2_ok : ∀ k, k < 4 → parseFieldDescriptor (TX2 k).2.2.1 = some (tyX2 k) := by decide +kernel
abbrev cX2_init : ByteArray := prog_4_method_1_code
def yX2_init : MethodName := ⟨RX2, "<init>", "()V"⟩
abbrev cX2_weigh : ByteArray := prog_4_method_2_code
def yX2_weigh : MethodName := ⟨RX2, "weigh", "(LEdgeStencil$Field;LEdgeStencil$Shape;II)Z"⟩
def RX3 : String := "EdgeStencil$History"
def TX3 : u_T := fun k => match k with
  | 0 => ("EdgeStencil$History", "scenes", "[LEdgeStencil$Scene;", true)
  | 1 => ("EdgeStencil$History", "bookSizes", "[I", true)
  | 2 => ("EdgeStencil$History", "next", "I", false)
  | _ => ("EdgeStencil$History", "size", "I", false)
def tyX3 : Nat → FieldType := fun k => match k with
  | 0 => .array (.object "EdgeStencil$Scene")
  | 1 => .array .int
  | 2 => .int
  | _ => .int
abbrev wsX30 : List Cond := u_ws RX3 TX3 4
theorem nmX3 : ∀ a, a < 4 → ∀ b, b < 4 → a ≠ b → (TX3 a).2.1 ≠ (TX3 b).2.1 := by decide +kernel
theorem tyX3_ok : ∀ k, k < 4 → parseFieldDescriptor (TX3 k).2.2.1 = some (tyX3 k) := by decide +kernel
abbrev cX3_init : ByteArray := prog_5_method_1_code
def yX3_init : MethodName := ⟨RX3, "<init>", "()V"⟩
abbrev cX3_keep : ByteArray := prog_5_method_2_code
def yX3_keep : MethodName := ⟨RX3, "keep", "(LEdgeStencil$Scene;I)V"⟩
abbrev cX3_restoreLatest : ByteArray := prog_5_method_3_code
def yX3_restoreLatest : MethodName := ⟨RX3, "restoreLatest", "(LEdgeStencil$Scene;LEdgeStencil$Book;)V"⟩
def RX4 : String := "EdgeStencil$Rank"
def TX4 : u_T := fun k => match k with
  | _ => ("", "", "", false)
def tyX4 : Nat → FieldType := fun k => match k with
  | _ => .int
abbrev wsX40 : List Cond := u_ws RX4 TX4 0
theorem nmX4 : ∀ a, a < 0 → ∀ b, b < 0 → a ≠ b → (TX4 a).2.1 ≠ (TX4 b).2.1 := by decide +kernel
theorem tyX4_ok : ∀ k, k < 0 → parseFieldDescriptor (TX4 k).2.2.1 = some (tyX4 k) := by decide +kernel
abbrev cX4_of : ByteArray := prog_6_method_2_code
def yX4_of : MethodName := ⟨RX4, "of", "(LEdgeStencil$Fit;II)I"⟩
abbrev cX4_scaleOf : ByteArray := prog_6_method_3_code
def yX4_scaleOf : MethodName := ⟨RX4, "scaleOf", "(I)I"⟩
abbrev cX4_turnsOf : ByteArray := prog_6_method_4_code
def yX4_turnsOf : MethodName := ⟨RX4, "turnsOf", "(I)I"⟩
abbrev cX4_flipOf : ByteArray := prog_6_method_5_code
def yX4_flipOf : MethodName := ⟨RX4, "flipOf", "(I)I"⟩
abbrev cX4_part : ByteArray := prog_6_method_6_code
def yX4_part : MethodName := ⟨RX4, "part", "(II)I"⟩
def RX5 : String := "EdgeStencil$Ranking"
def TX5 : u_T := fun k => match k with
  | 0 => ("EdgeStencil$Ranking", "shape", "LEdgeStencil$Shape;", true)
  | 1 => ("EdgeStencil$Ranking", "fit", "LEdgeStencil$Fit;", true)
  | 2 => ("EdgeStencil$Ranking", "first", "[I", true)
  | 3 => ("EdgeStencil$Ranking", "found", "I", false)
  | 4 => ("EdgeStencil$Ranking", "firstAtPlace", "[I", true)
  | 5 => ("EdgeStencil$Ranking", "open", "[Z", true)
  | 6 => ("EdgeStencil$Ranking", "chosen", "[I", true)
  | 7 => ("EdgeStencil$Ranking", "chosenCount", "I", false)
  | _ => ("EdgeStencil$Ranking", "chosenBy", "I", false)
def tyX5 : Nat → FieldType := fun k => match k with
  | 0 => .object "EdgeStencil$Shape"
  | 1 => .object "EdgeStencil$Fit"
  | 2 => .array .int
  | 3 => .int
  | 4 => .array .int
  | 5 => .array .boolean
  | 6 => .array .int
  | 7 => .int
  | _ => .int
abbrev wsX50 : List Cond := u_ws RX5 TX5 9
theorem nmX5 : ∀ a, a < 9 → ∀ b, b < 9 → a ≠ b → (TX5 a).2.1 ≠ (TX5 b).2.1 := by decide +kernel
theorem tyX5_ok : ∀ k, k < 9 → parseFieldDescriptor (TX5 k).2.2.1 = some (tyX5 k) := by decide +kernel
abbrev cX5_init : ByteArray := prog_7_method_1_code
def yX5_init : MethodName := ⟨RX5, "<init>", "()V"⟩
abbrev cX5_seek : ByteArray := prog_7_method_2_code
def yX5_seek : MethodName := ⟨RX5, "seek", "(LEdgeStencil$Scene;LEdgeStencil$Field;)V"⟩
abbrev cX5_enter : ByteArray := prog_7_method_3_code
def yX5_enter : MethodName := ⟨RX5, "enter", "(II)V"⟩
abbrev cX5_chooseApart : ByteArray := prog_7_method_4_code
def yX5_chooseApart : MethodName := ⟨RX5, "chooseApart", "(I)V"⟩
abbrev cX5_firstOpen : ByteArray := prog_7_method_5_code
def yX5_firstOpen : MethodName := ⟨RX5, "firstOpen", "()I"⟩
abbrev cX5_closeAround : ByteArray := prog_7_method_6_code
def yX5_closeAround : MethodName := ⟨RX5, "closeAround", "(III)V"⟩
def RX6 : String := "EdgeStencil$Reader"
def TX6 : u_T := fun k => match k with
  | 0 => ("EdgeStencil$Reader", "scene", "LEdgeStencil$Scene;", true)
  | 1 => ("EdgeStencil$Reader", "gridTold", "Z", false)
  | _ => ("EdgeStencil$Reader", "rowsTold", "I", false)
def tyX6 : Nat → FieldType := fun k => match k with
  | 0 => .object "EdgeStencil$Scene"
  | 1 => .boolean
  | _ => .int
abbrev wsX60 : List Cond := u_ws RX6 TX6 3
theorem nmX6 : ∀ a, a < 3 → ∀ b, b < 3 → a ≠ b → (TX6 a).2.1 ≠ (TX6 b).2.1 := by decide +kernel
theorem tyX6_ok : ∀ k, k < 3 → parseFieldDescriptor (TX6 k).2.2.1 = some (tyX6 k) := by decide +kernel
abbrev cX6_init : ByteArray := prog_8_method_1_code
def yX6_init : MethodName := ⟨RX6, "<init>", "()V"⟩
abbrev cX6_readAll : ByteArray := prog_8_method_2_code
def yX6_readAll : MethodName := ⟨RX6, "readAll", "(LEdgeStencil$Script;)I"⟩
abbrev cX6_readItem : ByteArray := prog_8_method_3_code
def yX6_readItem : MethodName := ⟨RX6, "readItem", "(LEdgeStencil$Script;I)I"⟩
abbrev cX6_readGrid : ByteArray := prog_8_method_4_code
def yX6_readGrid : MethodName := ⟨RX6, "readGrid", "(LEdgeStencil$Script;I)I"⟩
abbrev cX6_readRow : ByteArray := prog_8_method_5_code
def yX6_readRow : MethodName := ⟨RX6, "readRow", "(LEdgeStencil$Script;I)I"⟩
abbrev cX6_readDot : ByteArray := prog_8_method_6_code
def yX6_readDot : MethodName := ⟨RX6, "readDot", "(LEdgeStencil$Script;I)I"⟩
abbrev cX6_readMetric : ByteArray := prog_8_method_7_code
def yX6_readMetric : MethodName := ⟨RX6, "readMetric", "(LEdgeStencil$Script;I)I"⟩
abbrev cX6_sideOf : ByteArray := prog_8_method_8_code
def yX6_sideOf : MethodName := ⟨RX6, "sideOf", "(C)I"⟩
def RX7 : String := "EdgeStencil$Scene"
def TX7 : u_T := fun k => match k with
  | 0 => ("EdgeStencil$Scene", "width", "I", false)
  | 1 => ("EdgeStencil$Scene", "height", "I", false)
  | 2 => ("EdgeStencil$Scene", "rows", "[I", true)
  | 3 => ("EdgeStencil$Scene", "dotX", "[I", true)
  | 4 => ("EdgeStencil$Scene", "dotY", "[I", true)
  | 5 => ("EdgeStencil$Scene", "dots", "I", false)
  | 6 => ("EdgeStencil$Scene", "metric", "I", false)
  | _ => ("EdgeStencil$Scene", "cap", "I", false)
def tyX7 : Nat → FieldType := fun k => match k with
  | 0 => .int
  | 1 => .int
  | 2 => .array .int
  | 3 => .array .int
  | 4 => .array .int
  | 5 => .int
  | 6 => .int
  | _ => .int
abbrev wsX70 : List Cond := u_ws RX7 TX7 8
theorem nmX7 : ∀ a, a < 8 → ∀ b, b < 8 → a ≠ b → (TX7 a).2.1 ≠ (TX7 b).2.1 := by decide +kernel
theorem tyX7_ok : ∀ k, k < 8 → parseFieldDescriptor (TX7 k).2.2.1 = some (tyX7 k) := by decide +kernel
abbrev cX7_init : ByteArray := prog_9_method_1_code
def yX7_init : MethodName := ⟨RX7, "<init>", "()V"⟩
abbrev cX7_clear : ByteArray := prog_9_method_2_code
def yX7_clear : MethodName := ⟨RX7, "clear", "()V"⟩
abbrev cX7_copyFrom : ByteArray := prog_9_method_3_code
def yX7_copyFrom : MethodName := ⟨RX7, "copyFrom", "(LEdgeStencil$Scene;)V"⟩
abbrev cX7_has : ByteArray := prog_9_method_4_code
def yX7_has : MethodName := ⟨RX7, "has", "(II)Z"⟩
abbrev cX7_edgeAt : ByteArray := prog_9_method_5_code
def yX7_edgeAt : MethodName := ⟨RX7, "edgeAt", "(II)I"⟩
abbrev cX7_flipEdge : ByteArray := prog_9_method_6_code
def yX7_flipEdge : MethodName := ⟨RX7, "flipEdge", "(II)V"⟩
abbrev cX7_clearEdges : ByteArray := prog_9_method_7_code
def yX7_clearEdges : MethodName := ⟨RX7, "clearEdges", "([I)V"⟩
abbrev cX7_edges : ByteArray := prog_9_method_8_code
def yX7_edges : MethodName := ⟨RX7, "edges", "()I"⟩
abbrev cX7_hasDot : ByteArray := prog_9_method_9_code
def yX7_hasDot : MethodName := ⟨RX7, "hasDot", "(II)Z"⟩
abbrev cX7_addDot : ByteArray := prog_9_method_10_code
def yX7_addDot : MethodName := ⟨RX7, "addDot", "(II)V"⟩
abbrev cX7_removeDot : ByteArray := prog_9_method_11_code
def yX7_removeDot : MethodName := ⟨RX7, "removeDot", "(I)V"⟩
abbrev cX7_apart : ByteArray := prog_9_method_12_code
def yX7_apart : MethodName := ⟨RX7, "apart", "(II)I"⟩
def RX8 : String := "EdgeStencil$Script"
def TX8 : u_T := fun k => match k with
  | 0 => ("EdgeStencil$Script", "letters", "[C", true)
  | _ => ("EdgeStencil$Script", "length", "I", false)
def tyX8 : Nat → FieldType := fun k => match k with
  | 0 => .array .char
  | _ => .int
abbrev wsX80 : List Cond := u_ws RX8 TX8 2
theorem nmX8 : ∀ a, a < 2 → ∀ b, b < 2 → a ≠ b → (TX8 a).2.1 ≠ (TX8 b).2.1 := by decide +kernel
theorem tyX8_ok : ∀ k, k < 2 → parseFieldDescriptor (TX8 k).2.2.1 = some (tyX8 k) := by decide +kernel
abbrev cX8_init : ByteArray := prog_10_method_1_code
def yX8_init : MethodName := ⟨RX8, "<init>", "()V"⟩
abbrev cX8_append : ByteArray := prog_10_method_2_code
def yX8_append : MethodName := ⟨RX8, "append", "(C)Z"⟩
abbrev cX8_at : ByteArray := prog_10_method_3_code
def yX8_at : MethodName := ⟨RX8, "at", "(I)C"⟩
def RX9 : String := "EdgeStencil$Shape"
def TX9 : u_T := fun k => match k with
  | 0 => ("EdgeStencil$Shape", "dx", "[I", true)
  | 1 => ("EdgeStencil$Shape", "dy", "[I", true)
  | 2 => ("EdgeStencil$Shape", "dots", "I", false)
  | 3 => ("EdgeStencil$Shape", "left", "I", false)
  | 4 => ("EdgeStencil$Shape", "right", "I", false)
  | 5 => ("EdgeStencil$Shape", "top", "I", false)
  | _ => ("EdgeStencil$Shape", "bottom", "I", false)
def tyX9 : Nat → FieldType := fun k => match k with
  | 0 => .array .int
  | 1 => .array .int
  | 2 => .int
  | 3 => .int
  | 4 => .int
  | 5 => .int
  | _ => .int
abbrev wsX90 : List Cond := u_ws RX9 TX9 7
theorem nmX9 : ∀ a, a < 7 → ∀ b, b < 7 → a ≠ b → (TX9 a).2.1 ≠ (TX9 b).2.1 := by decide +kernel
theorem tyX9_ok : ∀ k, k < 7 → parseFieldDescriptor (TX9 k).2.2.1 = some (tyX9 k) := by decide +kernel
abbrev cX9_init : ByteArray := prog_11_method_1_code
def yX9_init : MethodName := ⟨RX9, "<init>", "()V"⟩
abbrev cX9_form : ByteArray := prog_11_method_2_code
def yX9_form : MethodName := ⟨RX9, "form", "(LEdgeStencil$Scene;III)V"⟩
abbrev cX9_findBox : ByteArray := prog_11_method_3_code
def yX9_findBox : MethodName := ⟨RX9, "findBox", "()V"⟩
abbrev cX9_isInside : ByteArray := prog_11_method_4_code
def yX9_isInside : MethodName := ⟨RX9, "isInside", "(IIII)Z"⟩
def RX10 : String := "EdgeStencil$Told"
def TX10 : u_T := fun k => match k with
  | _ => ("EdgeStencil$Told", "rows", "[I", true)
def tyX10 : Nat → FieldType := fun k => match k with
  | _ => .array .int
abbrev wsX100 : List Cond := u_ws RX10 TX10 1
theorem nmX10 : ∀ a, a < 1 → ∀ b, b < 1 → a ≠ b → (TX10 a).2.1 ≠ (TX10 b).2.1 := by decide +kernel
theorem tyX10_ok : ∀ k, k < 1 → parseFieldDescriptor (TX10 k).2.2.1 = some (tyX10 k) := by decide +kernel
abbrev cX10_init : ByteArray := prog_12_method_1_code
def yX10_init : MethodName := ⟨RX10, "<init>", "()V"⟩
abbrev cX10_seek : ByteArray := prog_12_method_2_code
def yX10_seek : MethodName := ⟨RX10, "seek", "(LEdgeStencil$Scene;LEdgeStencil$Shape;III)I"⟩
abbrev cX10_isNear : ByteArray := prog_12_method_3_code
def yX10_isNear : MethodName := ⟨RX10, "isNear", "(LEdgeStencil$Scene;LEdgeStencil$Shape;III)Z"⟩
def RX11 : String := "EdgeStencil"
def TX11 : u_T := fun k => match k with
  | 0 => ("EdgeStencil", "script", "LEdgeStencil$Script;", true)
  | 1 => ("EdgeStencil", "reader", "LEdgeStencil$Reader;", true)
  | 2 => ("EdgeStencil", "scene", "LEdgeStencil$Scene;", true)
  | 3 => ("EdgeStencil", "history", "LEdgeStencil$History;", true)
  | 4 => ("EdgeStencil", "book", "LEdgeStencil$Book;", true)
  | 5 => ("EdgeStencil", "field", "LEdgeStencil$Field;", true)
  | 6 => ("EdgeStencil", "ranking", "LEdgeStencil$Ranking;", true)
  | 7 => ("EdgeStencil", "shape", "LEdgeStencil$Shape;", true)
  | 8 => ("EdgeStencil", "fit", "LEdgeStencil$Fit;", true)
  | 9 => ("EdgeStencil", "told", "LEdgeStencil$Told;", true)
  | 10 => ("EdgeStencil", "scale", "I", false)
  | 11 => ("EdgeStencil", "turns", "I", false)
  | 12 => ("EdgeStencil", "flip", "I", false)
  | 13 => ("EdgeStencil", "fieldStale", "Z", false)
  | _ => ("EdgeStencil", "rankingStale", "Z", false)
def tyX11 : Nat → FieldType := fun k => match k with
  | 0 => .object "EdgeStencil$Script"
  | 1 => .object "EdgeStencil$Reader"
  | 2 => .object "EdgeStencil$Scene"
  | 3 => .object "EdgeStencil$History"
  | 4 => .object "EdgeStencil$Book"
  | 5 => .object "EdgeStencil$Field"
  | 6 => .object "EdgeStencil$Ranking"
  | 7 => .object "EdgeStencil$Shape"
  | 8 => .object "EdgeStencil$Fit"
  | 9 => .object "EdgeStencil$Told"
  | 10 => .int
  | 11 => .int
  | 12 => .int
  | 13 => .boolean
  | _ => .boolean
abbrev wsX110 : List Cond := u_ws RX11 TX11 15
theorem nmX11 : ∀ a, a < 15 → ∀ b, b < 15 → a ≠ b → (TX11 a).2.1 ≠ (TX11 b).2.1 := by decide +kernel
theorem tyX11_ok : ∀ k, k < 15 → parseFieldDescriptor (TX11 k).2.2.1 = some (tyX11 k) := by decide +kernel
abbrev cX11_init : ByteArray := prog_1_method_1_code
def yX11_init : MethodName := ⟨RX11, "<init>", "()V"⟩
abbrev cX11_write : ByteArray := prog_1_method_2_code
def yX11_write : MethodName := ⟨RX11, "write", "(I)I"⟩
abbrev cX11_wipe : ByteArray := prog_1_method_3_code
def yX11_wipe : MethodName := ⟨RX11, "wipe", "()I"⟩
abbrev cX11_fault : ByteArray := prog_1_method_4_code
def yX11_fault : MethodName := ⟨RX11, "fault", "()I"⟩
abbrev cX11_lay : ByteArray := prog_1_method_5_code
def yX11_lay : MethodName := ⟨RX11, "lay", "()I"⟩
abbrev cX11_edge : ByteArray := prog_1_method_6_code
def yX11_edge : MethodName := ⟨RX11, "edge", "(III)I"⟩
abbrev cX11_dot : ByteArray := prog_1_method_7_code
def yX11_dot : MethodName := ⟨RX11, "dot", "(II)I"⟩
abbrev cX11_drop : ByteArray := prog_1_method_8_code
def yX11_drop : MethodName := ⟨RX11, "drop", "(I)I"⟩
abbrev cX11_measure : ByteArray := prog_1_method_9_code
def yX11_measure : MethodName := ⟨RX11, "measure", "(II)I"⟩
abbrev cX11_undo : ByteArray := prog_1_method_10_code
def yX11_undo : MethodName := ⟨RX11, "undo", "()I"⟩
abbrev cX11_cell : ByteArray := prog_1_method_11_code
def yX11_cell : MethodName := ⟨RX11, "cell", "(II)I"⟩
abbrev cX11_far : ByteArray := prog_1_method_12_code
def yX11_far : MethodName := ⟨RX11, "far", "(II)I"⟩
abbrev cX11_nearest : ByteArray := prog_1_method_13_code
def yX11_nearest : MethodName := ⟨RX11, "nearest", "(II)I"⟩
abbrev cX11_rings : ByteArray := prog_1_method_14_code
def yX11_rings : MethodName := ⟨RX11, "rings", "(I)I"⟩
abbrev cX11_turn : ByteArray := prog_1_method_15_code
def yX11_turn : MethodName := ⟨RX11, "turn", "(III)I"⟩
abbrev cX11_lies : ByteArray := prog_1_method_16_code
def yX11_lies : MethodName := ⟨RX11, "lies", "(II)I"⟩
abbrev cX11_pose : ByteArray := prog_1_method_17_code
def yX11_pose : MethodName := ⟨RX11, "pose", "(III)I"⟩
abbrev cX11_fits : ByteArray := prog_1_method_18_code
def yX11_fits : MethodName := ⟨RX11, "fits", "()I"⟩
abbrev cX11_bound : ByteArray := prog_1_method_19_code
def yX11_bound : MethodName := ⟨RX11, "bound", "(III)I"⟩
abbrev cX11_tells : ByteArray := prog_1_method_20_code
def yX11_tells : MethodName := ⟨RX11, "tells", "(III)I"⟩
abbrev cX11_best : ByteArray := prog_1_method_21_code
def yX11_best : MethodName := ⟨RX11, "best", "(II)I"⟩
abbrev cX11_spread : ByteArray := prog_1_method_22_code
def yX11_spread : MethodName := ⟨RX11, "spread", "(III)I"⟩
abbrev cX11_take : ByteArray := prog_1_method_23_code
def yX11_take : MethodName := ⟨RX11, "take", "(II)I"⟩
abbrev cX11_takes : ByteArray := prog_1_method_24_code
def yX11_takes : MethodName := ⟨RX11, "takes", "(II)I"⟩
abbrev cX11_ledger : ByteArray := prog_1_method_25_code
def yX11_ledger : MethodName := ⟨RX11, "ledger", "(II)I"⟩
abbrev cX11_count : ByteArray := prog_1_method_26_code
def yX11_count : MethodName := ⟨RX11, "count", "(I)I"⟩
abbrev cX11_isFrom : ByteArray := prog_1_method_27_code
def yX11_isFrom : MethodName := ⟨RX11, "isFrom", "(III)Z"⟩
abbrev cX11_isDot : ByteArray := prog_1_method_28_code
def yX11_isDot : MethodName := ⟨RX11, "isDot", "(I)Z"⟩
abbrev cX11_lookAt : ByteArray := prog_1_method_29_code
def yX11_lookAt : MethodName := ⟨RX11, "lookAt", "(III)V"⟩
abbrev cX11_lookedAt : ByteArray := prog_1_method_30_code
def yX11_lookedAt : MethodName := ⟨RX11, "lookedAt", "()LEdgeStencil$Shape;"⟩
abbrev cX11_startChange : ByteArray := prog_1_method_31_code
def yX11_startChange : MethodName := ⟨RX11, "startChange", "()V"⟩
abbrev cX11_makeStale : ByteArray := prog_1_method_32_code
def yX11_makeStale : MethodName := ⟨RX11, "makeStale", "()V"⟩
abbrev cX11_freshField : ByteArray := prog_1_method_33_code
def yX11_freshField : MethodName := ⟨RX11, "freshField", "()LEdgeStencil$Field;"⟩
abbrev cX11_freshRanking : ByteArray := prog_1_method_34_code
def yX11_freshRanking : MethodName := ⟨RX11, "freshRanking", "()LEdgeStencil$Ranking;"⟩
abbrev cX11_partOf : ByteArray := prog_1_method_35_code
def yX11_partOf : MethodName := ⟨RX11, "partOf", "([IIII)I"⟩
abbrev cX11_takeFirst : ByteArray := prog_1_method_36_code
def yX11_takeFirst : MethodName := ⟨RX11, "takeFirst", "(II)I"⟩
def RX12 : String := "EdgeStencilModel"
def TX12 : u_T := fun k => match k with
  | 0 => ("EdgeStencilModel", "wide", "I", false)
  | 1 => ("EdgeStencilModel", "high", "I", false)
  | 2 => ("EdgeStencilModel", "now", "[I", true)
  | 3 => ("EdgeStencilModel", "changes", "[I", true)
  | 4 => ("EdgeStencilModel", "changeMany", "I", false)
  | 5 => ("EdgeStencilModel", "changeAt", "I", false)
  | 6 => ("EdgeStencilModel", "ledger", "[I", true)
  | 7 => ("EdgeStencilModel", "scale", "I", false)
  | 8 => ("EdgeStencilModel", "quarters", "I", false)
  | 9 => ("EdgeStencilModel", "flipped", "I", false)
  | 10 => ("EdgeStencilModel", "text", "[I", true)
  | 11 => ("EdgeStencilModel", "letterMany", "I", false)
  | 12 => ("EdgeStencilModel", "newWide", "I", false)
  | 13 => ("EdgeStencilModel", "newHigh", "I", false)
  | 14 => ("EdgeStencilModel", "newRows", "I", false)
  | 15 => ("EdgeStencilModel", "fresh", "[I", true)
  | 16 => ("EdgeStencilModel", "firstRows", "[I", true)
  | 17 => ("EdgeStencilModel", "firstDots", "[I", true)
  | 18 => ("EdgeStencilModel", "fars", "[I", true)
  | 19 => ("EdgeStencilModel", "illIs", "I", false)
  | 20 => ("EdgeStencilModel", "worstIs", "I", false)
  | 21 => ("EdgeStencilModel", "worstDot", "I", false)
  | 22 => ("EdgeStencilModel", "onEdges", "I", false)
  | 23 => ("EdgeStencilModel", "ranks", "[I", true)
  | 24 => ("EdgeStencilModel", "rankMany", "I", false)
  | 25 => ("EdgeStencilModel", "chosen", "[I", true)
  | _ => ("EdgeStencilModel", "chosenMany", "I", false)
def tyX12 : Nat → FieldType := fun k => match k with
  | 0 => .int
  | 1 => .int
  | 2 => .array .int
  | 3 => .array .int
  | 4 => .int
  | 5 => .int
  | 6 => .array .int
  | 7 => .int
  | 8 => .int
  | 9 => .int
  | 10 => .array .int
  | 11 => .int
  | 12 => .int
  | 13 => .int
  | 14 => .int
  | 15 => .array .int
  | 16 => .array .int
  | 17 => .array .int
  | 18 => .array .int
  | 19 => .int
  | 20 => .int
  | 21 => .int
  | 22 => .int
  | 23 => .array .int
  | 24 => .int
  | 25 => .array .int
  | _ => .int
abbrev wsX120 : List Cond := u_ws RX12 TX12 27
theorem nmX12 : ∀ a, a < 27 → ∀ b, b < 27 → a ≠ b → (TX12 a).2.1 ≠ (TX12 b).2.1 := by decide +kernel
theorem tyX12_ok : ∀ k, k < 27 → parseFieldDescriptor (TX12 k).2.2.1 = some (tyX12 k) := by decide +kernel
abbrev cX12_in : ByteArray := prog_14_method_1_code
def yX12_in : MethodName := ⟨RX12, "in", "(III)Z"⟩
abbrev cX12_init : ByteArray := prog_14_method_2_code
def yX12_init : MethodName := ⟨RX12, "<init>", "()V"⟩
abbrev cX12_write : ByteArray := prog_14_method_3_code
def yX12_write : MethodName := ⟨RX12, "write", "(I)I"⟩
abbrev cX12_wipe : ByteArray := prog_14_method_4_code
def yX12_wipe : MethodName := ⟨RX12, "wipe", "()I"⟩
abbrev cX12_letter : ByteArray := prog_14_method_5_code
def yX12_letter : MethodName := ⟨RX12, "letter", "(I)I"⟩
abbrev cX12_signOf : ByteArray := prog_14_method_6_code
def yX12_signOf : MethodName := ⟨RX12, "signOf", "(I)I"⟩
abbrev cX12_readsGrid : ByteArray := prog_14_method_7_code
def yX12_readsGrid : MethodName := ⟨RX12, "readsGrid", "(I)Z"⟩
abbrev cX12_readsRow : ByteArray := prog_14_method_8_code
def yX12_readsRow : MethodName := ⟨RX12, "readsRow", "(I)Z"⟩
abbrev cX12_readsDot : ByteArray := prog_14_method_9_code
def yX12_readsDot : MethodName := ⟨RX12, "readsDot", "(I)Z"⟩
abbrev cX12_readsMeasure : ByteArray := prog_14_method_10_code
def yX12_readsMeasure : MethodName := ⟨RX12, "readsMeasure", "(I)Z"⟩
abbrev cX12_dotAt : ByteArray := prog_14_method_11_code
def yX12_dotAt : MethodName := ⟨RX12, "dotAt", "([III)I"⟩
abbrev cX12_comesDot : ByteArray := prog_14_method_12_code
def yX12_comesDot : MethodName := ⟨RX12, "comesDot", "([III)V"⟩
abbrev cX12_readsItem : ByteArray := prog_14_method_13_code
def yX12_readsItem : MethodName := ⟨RX12, "readsItem", "(I)I"⟩
abbrev cX12_reads : ByteArray := prog_14_method_14_code
def yX12_reads : MethodName := ⟨RX12, "reads", "()I"⟩
abbrev cX12_fault : ByteArray := prog_14_method_15_code
def yX12_fault : MethodName := ⟨RX12, "fault", "()I"⟩
abbrev cX12_lay : ByteArray := prog_14_method_16_code
def yX12_lay : MethodName := ⟨RX12, "lay", "()I"⟩
abbrev cX12_edges : ByteArray := prog_14_method_17_code
def yX12_edges : MethodName := ⟨RX12, "edges", "()I"⟩
abbrev cX12_remembers : ByteArray := prog_14_method_18_code
def yX12_remembers : MethodName := ⟨RX12, "remembers", "()V"⟩
abbrev cX12_undo : ByteArray := prog_14_method_19_code
def yX12_undo : MethodName := ⟨RX12, "undo", "()I"⟩
abbrev cX12_isCell : ByteArray := prog_14_method_20_code
def yX12_isCell : MethodName := ⟨RX12, "isCell", "(II)Z"⟩
abbrev cX12_at : ByteArray := prog_14_method_21_code
def yX12_at : MethodName := ⟨RX12, "at", "(II)I"⟩
abbrev cX12_edge : ByteArray := prog_14_method_22_code
def yX12_edge : MethodName := ⟨RX12, "edge", "(III)I"⟩
abbrev cX12_dot : ByteArray := prog_14_method_23_code
def yX12_dot : MethodName := ⟨RX12, "dot", "(II)I"⟩
abbrev cX12_isDot : ByteArray := prog_14_method_24_code
def yX12_isDot : MethodName := ⟨RX12, "isDot", "(I)Z"⟩
abbrev cX12_drop : ByteArray := prog_14_method_25_code
def yX12_drop : MethodName := ⟨RX12, "drop", "(I)I"⟩
abbrev cX12_measure : ByteArray := prog_14_method_26_code
def yX12_measure : MethodName := ⟨RX12, "measure", "(II)I"⟩
abbrev cX12_apart : ByteArray := prog_14_method_27_code
def yX12_apart : MethodName := ⟨RX12, "apart", "(IIII)I"⟩
abbrev cX12_nearestOf : ByteArray := prog_14_method_28_code
def yX12_nearestOf : MethodName := ⟨RX12, "nearestOf", "(II)I"⟩
abbrev cX12_farOf : ByteArray := prog_14_method_29_code
def yX12_farOf : MethodName := ⟨RX12, "farOf", "(II)I"⟩
abbrev cX12_cell : ByteArray := prog_14_method_30_code
def yX12_cell : MethodName := ⟨RX12, "cell", "(II)I"⟩
abbrev cX12_far : ByteArray := prog_14_method_31_code
def yX12_far : MethodName := ⟨RX12, "far", "(II)I"⟩
abbrev cX12_nearest : ByteArray := prog_14_method_32_code
def yX12_nearest : MethodName := ⟨RX12, "nearest", "(II)I"⟩
abbrev cX12_rings : ByteArray := prog_14_method_33_code
def yX12_rings : MethodName := ⟨RX12, "rings", "(I)I"⟩
abbrev cX12_laysFars : ByteArray := prog_14_method_34_code
def yX12_laysFars : MethodName := ⟨RX12, "laysFars", "()V"⟩
abbrev cX12_turn : ByteArray := prog_14_method_35_code
def yX12_turn : MethodName := ⟨RX12, "turn", "(III)I"⟩
abbrev cX12_halved : ByteArray := prog_14_method_36_code
def yX12_halved : MethodName := ⟨RX12, "halved", "(II)I"⟩
abbrev cX12_liesX : ByteArray := prog_14_method_37_code
def yX12_liesX : MethodName := ⟨RX12, "liesX", "(IIII)I"⟩
abbrev cX12_liesY : ByteArray := prog_14_method_38_code
def yX12_liesY : MethodName := ⟨RX12, "liesY", "(IIII)I"⟩
abbrev cX12_lies : ByteArray := prog_14_method_39_code
def yX12_lies : MethodName := ⟨RX12, "lies", "(II)I"⟩
abbrev cX12_looks : ByteArray := prog_14_method_40_code
def yX12_looks : MethodName := ⟨RX12, "looks", "(IIIII)Z"⟩
abbrev cX12_pose : ByteArray := prog_14_method_41_code
def yX12_pose : MethodName := ⟨RX12, "pose", "(III)I"⟩
abbrev cX12_fits : ByteArray := prog_14_method_42_code
def yX12_fits : MethodName := ⟨RX12, "fits", "()I"⟩
abbrev cX12_bound : ByteArray := prog_14_method_43_code
def yX12_bound : MethodName := ⟨RX12, "bound", "(III)I"⟩
abbrev cX12_isTold : ByteArray := prog_14_method_44_code
def yX12_isTold : MethodName := ⟨RX12, "isTold", "(IIIIIII)Z"⟩
abbrev cX12_toldMany : ByteArray := prog_14_method_45_code
def yX12_toldMany : MethodName := ⟨RX12, "toldMany", "(IIIIII)I"⟩
abbrev cX12_tells : ByteArray := prog_14_method_46_code
def yX12_tells : MethodName := ⟨RX12, "tells", "(III)I"⟩
abbrev cX12_laysRanks : ByteArray := prog_14_method_47_code
def yX12_laysRanks : MethodName := ⟨RX12, "laysRanks", "()V"⟩
abbrev cX12_placeOf : ByteArray := prog_14_method_48_code
def yX12_placeOf : MethodName := ⟨RX12, "placeOf", "(I)I"⟩
abbrev cX12_isApart : ByteArray := prog_14_method_49_code
def yX12_isApart : MethodName := ⟨RX12, "isApart", "(II)Z"⟩
abbrev cX12_chooses : ByteArray := prog_14_method_50_code
def yX12_chooses : MethodName := ⟨RX12, "chooses", "(I)V"⟩
abbrev cX12_partOf : ByteArray := prog_14_method_51_code
def yX12_partOf : MethodName := ⟨RX12, "partOf", "(II)I"⟩
abbrev cX12_chosenIs : ByteArray := prog_14_method_52_code
def yX12_chosenIs : MethodName := ⟨RX12, "chosenIs", "(III)I"⟩
abbrev cX12_best : ByteArray := prog_14_method_53_code
def yX12_best : MethodName := ⟨RX12, "best", "(II)I"⟩
abbrev cX12_spread : ByteArray := prog_14_method_54_code
def yX12_spread : MethodName := ⟨RX12, "spread", "(III)I"⟩
abbrev cX12_takeOne : ByteArray := prog_14_method_55_code
def yX12_takeOne : MethodName := ⟨RX12, "takeOne", "(II)I"⟩
abbrev cX12_isTaking : ByteArray := prog_14_method_56_code
def yX12_isTaking : MethodName := ⟨RX12, "isTaking", "(II)Z"⟩
abbrev cX12_take : ByteArray := prog_14_method_57_code
def yX12_take : MethodName := ⟨RX12, "take", "(II)I"⟩
abbrev cX12_takes : ByteArray := prog_14_method_58_code
def yX12_takes : MethodName := ⟨RX12, "takes", "(II)I"⟩
abbrev cX12_ledger : ByteArray := prog_14_method_59_code
def yX12_ledger : MethodName := ⟨RX12, "ledger", "(II)I"⟩
abbrev cX12_count : ByteArray := prog_14_method_60_code
def yX12_count : MethodName := ⟨RX12, "count", "(I)I"⟩
def RJ6 : String := "java/lang/Integer"
def TJ6 : u_T := fun k => match k with
  | _ => ("", "", "", false)
def tyJ6 : Nat → FieldType := fun k => match k with
  | _ => .int
abbrev wsJ60 : List Cond := u_ws RJ6 TJ6 0
theorem nmJ6 : ∀ a, a < 0 → ∀ b, b < 0 → a ≠ b → (TJ6 a).2.1 ≠ (TJ6 b).2.1 := by decide +kernel
theorem tyJ6_ok : ∀ k, k < 0 → parseFieldDescriptor (TJ6 k).2.2.1 = some (tyJ6 k) := by decide +kernel
abbrev cJ6_bitCount_0f7a4 : ByteArray := prog_15_method_49_code
def yJ6_bitCount_0f7a4 : MethodName := ⟨RJ6, "bitCount", "(I)I"⟩
def RJ9 : String := "java/lang/Math"
def TJ9 : u_T := fun k => match k with
  | _ => ("", "", "", false)
def tyJ9 : Nat → FieldType := fun k => match k with
  | _ => .int
abbrev wsJ90 : List Cond := u_ws RJ9 TJ9 0
theorem nmJ9 : ∀ a, a < 0 → ∀ b, b < 0 → a ≠ b → (TJ9 a).2.1 ≠ (TJ9 b).2.1 := by decide +kernel
theorem tyJ9_ok : ∀ k, k < 0 → parseFieldDescriptor (TJ9 k).2.2.1 = some (tyJ9 k) := by decide +kernel
abbrev cJ9_floorDiv_7cf53 : ByteArray := prog_16_method_47_code
def yJ9_floorDiv_7cf53 : MethodName := ⟨RJ9, "floorDiv", "(II)I"⟩
abbrev cJ9_abs_0f7a4 : ByteArray := prog_16_method_59_code
def yJ9_abs_0f7a4 : MethodName := ⟨RJ9, "abs", "(I)I"⟩
abbrev cJ9_max_7cf53 : ByteArray := prog_16_method_65_code
def yJ9_max_7cf53 : MethodName := ⟨RJ9, "max", "(II)I"⟩
abbrev cJ9_min_7cf53 : ByteArray := prog_16_method_69_code
def yJ9_min_7cf53 : MethodName := ⟨RJ9, "min", "(II)I"⟩
def RJ0 : String := "java/lang/String"
def TJ0 : u_T := fun k => match k with
  | _ => ("", "", "", false)
def tyJ0 : Nat → FieldType := fun k => match k with
  | _ => .int
abbrev wsJ00 : List Cond := u_ws RJ0 TJ0 0
theorem nmJ0 : ∀ a, a < 0 → ∀ b, b < 0 → a ≠ b → (TJ0 a).2.1 ≠ (TJ0 b).2.1 := by decide +kernel
theorem tyJ0_ok : ∀ k, k < 0 → parseFieldDescriptor (TJ0 k).2.2.1 = some (tyJ0 k) := by decide +kernel
abbrev cJ0_length_8abf5 : ByteArray := prog_17_method_54_code
def yJ0_length_8abf5 : MethodName := ⟨RJ0, "length", "()I"⟩
abbrev cJ0_charAt_5068e : ByteArray := prog_17_method_56_code
def yJ0_charAt_5068e : MethodName := ⟨RJ0, "charAt", "(I)C"⟩
abbrev cJ0_coder_7d493 : ByteArray := prog_17_method_152_code
def yJ0_coder_7d493 : MethodName := ⟨RJ0, "coder", "()B"⟩
abbrev cJ0_isLatin1_aae02 : ByteArray := prog_17_method_154_code
def yJ0_isLatin1_aae02 : MethodName := ⟨RJ0, "isLatin1", "()Z"⟩
abbrev cJ0_checkIndex_df160 : ByteArray := prog_17_method_155_code
def yJ0_checkIndex_df160 : MethodName := ⟨RJ0, "checkIndex", "(II)V"⟩
def RJ1 : String := "java/lang/StringLatin1"
def TJ1 : u_T := fun k => match k with
  | _ => ("", "", "", false)
def tyJ1 : Nat → FieldType := fun k => match k with
  | _ => .int
abbrev wsJ10 : List Cond := u_ws RJ1 TJ1 0
theorem nmJ1 : ∀ a, a < 0 → ∀ b, b < 0 → a ≠ b → (TJ1 a).2.1 ≠ (TJ1 b).2.1 := by decide +kernel
theorem tyJ1_ok : ∀ k, k < 0 → parseFieldDescriptor (TJ1 k).2.2.1 = some (tyJ1 k) := by decide +kernel
abbrev cJ1_charAt_3b067 : ByteArray := prog_18_method_2_code
def yJ1_charAt_3b067 : MethodName := ⟨RJ1, "charAt", "([BI)C"⟩
def RJ2 : String := "java/lang/StringUTF16"
def TJ2 : u_T := fun k => match k with
  | _ => ("", "", "", false)
def tyJ2 : Nat → FieldType := fun k => match k with
  | _ => .int
abbrev wsJ20 : List Cond := u_ws RJ2 TJ2 0
theorem nmJ2 : ∀ a, a < 0 → ∀ b, b < 0 → a ≠ b → (TJ2 a).2.1 ≠ (TJ2 b).2.1 := by decide +kernel
theorem tyJ2_ok : ∀ k, k < 0 → parseFieldDescriptor (TJ2 k).2.2.1 = some (tyJ2 k) := by decide +kernel
abbrev cJ2_getChar_3b067 : ByteArray := prog_19_method_5_code
def yJ2_getChar_3b067 : MethodName := ⟨RJ2, "getChar", "([BI)C"⟩
abbrev cJ2_length_9d52b : ByteArray := prog_19_method_6_code
def yJ2_length_9d52b : MethodName := ⟨RJ2, "length", "([B)I"⟩
abbrev cJ2_charAt_3b067 : ByteArray := prog_19_method_83_code
def yJ2_charAt_3b067 : MethodName := ⟨RJ2, "charAt", "([BI)C"⟩
abbrev cJ2_checkIndex_2214a : ByteArray := prog_19_method_91_code
def yJ2_checkIndex_2214a : MethodName := ⟨RJ2, "checkIndex", "(I[B)V"⟩
def RJ3 : String := "jdk/internal/util/Preconditions"
def TJ3 : u_T := fun k => match k with
  | _ => ("", "", "", false)
def tyJ3 : Nat → FieldType := fun k => match k with
  | _ => .int
abbrev wsJ30 : List Cond := u_ws RJ3 TJ3 0
theorem nmJ3 : ∀ a, a < 0 → ∀ b, b < 0 → a ≠ b → (TJ3 a).2.1 ≠ (TJ3 b).2.1 := by decide +kernel
theorem tyJ3_ok : ∀ k, k < 0 → parseFieldDescriptor (TJ3 k).2.2.1 = some (tyJ3 k) := by decide +kernel
abbrev cJ3_checkIndex_8e157 : ByteArray := prog_20_method_11_code
def yJ3_checkIndex_8e157 : MethodName := ⟨RJ3, "checkIndex", "(IILjava/util/function/BiFunction;)I"⟩
def RL : String := "EdgeStencilLaw"
abbrev cL_law : ByteArray := code
def yL_law : MethodName := ⟨RL, "law", "([I)Z"⟩
abbrev vwCl : List vw_C := [(RX0, TX0, 3), (RX1, TX1, 3), (RX2, TX2, 4), (RX3, TX3, 4), (RX5, TX5, 9), (RX6, TX6, 3), (RX7, TX7, 8), (RX8, TX8, 2), (RX9, TX9, 7), (RX10, TX10, 1), (RX11, TX11, 15), (RX12, TX12, 27)]
end
section
def wsL_law_r1 : List Cond := [Cond.classLink RL 7 RX11, Cond.instantiable RX11 15, Cond.initialized RX11, Cond.classLink RL 10 RX12, Cond.instantiable RX12 27, Cond.initialized RX12, Cond.methodLink RL 9 yX11_init, Cond.instanceMethod yX11_init, Cond.code yX11_init cX11_init 2 none, Cond.methodLink RX11 1 objectInit, Cond.instanceMethod objectInit, Cond.code objectInit ⟨#[0xb1]⟩ 1 none, Cond.classLink RX11 7 RX8, Cond.instantiable RX8 2, Cond.initialized RX8, Cond.fieldLink RX11 10 "EdgeStencil" "script" "LEdgeStencil$Script;", Cond.classLink RX11 16 RX6, Cond.instantiable RX6 3, Cond.initialized RX6, Cond.fieldLink RX11 19 "EdgeStencil" "reader" "LEdgeStencil$Reader;", Cond.classLink RX11 23 RX7, Cond.instantiable RX7 8, Cond.initialized RX7, Cond.fieldLink RX11 26 "EdgeStencil" "scene" "LEdgeStencil$Scene;"]
def wsL_law_r2 : List Cond := [Cond.classLink RX11 30 RX3, Cond.instantiable RX3 4, Cond.initialized RX3, Cond.fieldLink RX11 33 "EdgeStencil" "history" "LEdgeStencil$History;", Cond.classLink RX11 37 RX0, Cond.instantiable RX0 3, Cond.initialized RX0, Cond.fieldLink RX11 40 "EdgeStencil" "book" "LEdgeStencil$Book;", Cond.classLink RX11 44 RX1, Cond.instantiable RX1 3, Cond.initialized RX1, Cond.fieldLink RX11 47 "EdgeStencil" "field" "LEdgeStencil$Field;", Cond.classLink RX11 51 RX5, Cond.instantiable RX5 9, Cond.initialized RX5, Cond.fieldLink RX11 54 "EdgeStencil" "ranking" "LEdgeStencil$Ranking;", Cond.classLink RX11 58 RX9, Cond.instantiable RX9 7, Cond.initialized RX9, Cond.fieldLink RX11 61 "EdgeStencil" "shape" "LEdgeStencil$Shape;", Cond.classLink RX11 65 RX2, Cond.instantiable RX2 4, Cond.initialized RX2, Cond.fieldLink RX11 68 "EdgeStencil" "fit" "LEdgeStencil$Fit;"]
def wsL_law_r3 : List Cond := [Cond.classLink RX11 72 RX10, Cond.instantiable RX10 1, Cond.initialized RX10, Cond.fieldLink RX11 75 "EdgeStencil" "told" "LEdgeStencil$Told;", Cond.fieldLink RX11 79 "EdgeStencil" "scale" "I", Cond.fieldLink RX11 83 "EdgeStencil" "turns" "I", Cond.fieldLink RX11 86 "EdgeStencil" "flip" "I", Cond.fieldLink RX11 89 "EdgeStencil" "fieldStale" "Z", Cond.fieldLink RX11 93 "EdgeStencil" "rankingStale" "Z", Cond.instanceMethod yX8_init, Cond.code yX8_init cX8_init 1 none, Cond.methodLink RX8 3 objectInit, Cond.arrayClass .char, Cond.fieldLink RX8 9 "EdgeStencil$Script" "letters" "[C", Cond.fieldLink RX8 15 "EdgeStencil$Script" "length" "I", Cond.instanceMethod yX6_init, Cond.code yX6_init cX6_init 1 none, Cond.methodLink RX6 3 objectInit, Cond.classLink RX6 9 RX7, Cond.fieldLink RX6 12 "EdgeStencil$Reader" "scene" "LEdgeStencil$Scene;", Cond.fieldLink RX6 18 "EdgeStencil$Reader" "gridTold" "Z", Cond.fieldLink RX6 22 "EdgeStencil$Reader" "rowsTold" "I", Cond.instanceMethod yX7_init, Cond.code yX7_init cX7_init 1 none]
def wsL_law_r4 : List Cond := [Cond.methodLink RX7 3 objectInit, Cond.fieldLink RX7 9 "EdgeStencil$Scene" "width" "I", Cond.fieldLink RX7 15 "EdgeStencil$Scene" "height" "I", Cond.arrayClass .int, Cond.fieldLink RX7 18 "EdgeStencil$Scene" "rows" "[I", Cond.fieldLink RX7 22 "EdgeStencil$Scene" "dotX" "[I", Cond.fieldLink RX7 25 "EdgeStencil$Scene" "dotY" "[I", Cond.fieldLink RX7 28 "EdgeStencil$Scene" "dots" "I", Cond.fieldLink RX7 31 "EdgeStencil$Scene" "metric" "I", Cond.fieldLink RX7 34 "EdgeStencil$Scene" "cap" "I", Cond.methodLink RX11 32 yX3_init, Cond.instanceMethod yX3_init, Cond.code yX3_init cX3_init 2 none, Cond.methodLink RX3 3 objectInit, Cond.classLink RX3 9 RX7, Cond.fieldLink RX3 11 "EdgeStencil$History" "scenes" "[LEdgeStencil$Scene;", Cond.fieldLink RX3 17 "EdgeStencil$History" "bookSizes" "[I", Cond.fieldLink RX3 21 "EdgeStencil$History" "next" "I", Cond.fieldLink RX3 25 "EdgeStencil$History" "size" "I", Cond.instanceMethod yX0_init, Cond.code yX0_init cX0_init 1 none, Cond.methodLink RX0 3 objectInit, Cond.fieldLink RX0 9 "EdgeStencil$Book" "ranks" "[I", Cond.fieldLink RX0 15 "EdgeStencil$Book" "gone" "[I"]
def wsL_law_r5 : List Cond := [Cond.fieldLink RX0 18 "EdgeStencil$Book" "size" "I", Cond.instanceMethod yX1_init, Cond.code yX1_init cX1_init 1 none, Cond.methodLink RX1 3 objectInit, Cond.fieldLink RX1 11 "EdgeStencil$Field" "fars" "[I", Cond.fieldLink RX1 15 "EdgeStencil$Field" "width" "I", Cond.fieldLink RX1 19 "EdgeStencil$Field" "height" "I", Cond.instanceMethod yX5_init, Cond.code yX5_init cX5_init 1 none, Cond.methodLink RX5 3 objectInit, Cond.classLink RX5 9 RX9, Cond.fieldLink RX5 12 "EdgeStencil$Ranking" "shape" "LEdgeStencil$Shape;", Cond.classLink RX5 18 RX2, Cond.fieldLink RX5 21 "EdgeStencil$Ranking" "fit" "LEdgeStencil$Fit;", Cond.fieldLink RX5 25 "EdgeStencil$Ranking" "first" "[I", Cond.fieldLink RX5 29 "EdgeStencil$Ranking" "found" "I", Cond.fieldLink RX5 35 "EdgeStencil$Ranking" "firstAtPlace" "[I", Cond.arrayClass .boolean, Cond.fieldLink RX5 38 "EdgeStencil$Ranking" "open" "[Z", Cond.fieldLink RX5 42 "EdgeStencil$Ranking" "chosen" "[I", Cond.fieldLink RX5 45 "EdgeStencil$Ranking" "chosenCount" "I", Cond.fieldLink RX5 48 "EdgeStencil$Ranking" "chosenBy" "I", Cond.instanceMethod yX9_init, Cond.code yX9_init cX9_init 1 none]
def wsL_law_r6 : List Cond := [Cond.methodLink RX9 3 objectInit, Cond.fieldLink RX9 9 "EdgeStencil$Shape" "dx" "[I", Cond.fieldLink RX9 15 "EdgeStencil$Shape" "dy" "[I", Cond.fieldLink RX9 18 "EdgeStencil$Shape" "dots" "I", Cond.fieldLink RX9 22 "EdgeStencil$Shape" "left" "I", Cond.fieldLink RX9 25 "EdgeStencil$Shape" "right" "I", Cond.fieldLink RX9 28 "EdgeStencil$Shape" "top" "I", Cond.fieldLink RX9 31 "EdgeStencil$Shape" "bottom" "I", Cond.instanceMethod yX2_init, Cond.code yX2_init cX2_init 1 none, Cond.methodLink RX2 1 objectInit, Cond.fieldLink RX2 7 "EdgeStencil$Fit" "ill" "I", Cond.fieldLink RX2 13 "EdgeStencil$Fit" "worst" "I", Cond.fieldLink RX2 16 "EdgeStencil$Fit" "worstDot" "I", Cond.fieldLink RX2 19 "EdgeStencil$Fit" "onEdges" "I", Cond.instanceMethod yX10_init, Cond.code yX10_init cX10_init 1 none, Cond.methodLink RX10 3 objectInit, Cond.fieldLink RX10 9 "EdgeStencil$Told" "rows" "[I", Cond.methodLink RX11 98 yJ0_length_8abf5, Cond.instanceMethod yJ0_length_8abf5, Cond.selects RJ0 yJ0_length_8abf5 yJ0_length_8abf5, Cond.initialized RJ0, Cond.code yJ0_length_8abf5 cJ0_length_8abf5 1 (some .int)]
def wsL_law_r7 : List Cond := [Cond.fieldLink RJ0 9 "java/lang/String" "value" "[B", Cond.methodLink RJ0 335 yJ0_coder_7d493, Cond.instanceMethod yJ0_coder_7d493, Cond.selects RJ0 yJ0_coder_7d493 yJ0_coder_7d493, Cond.code yJ0_coder_7d493 cJ0_coder_7d493 1 (some .byte), Cond.fieldLink RJ0 38 "java/lang/String" "COMPACT_STRINGS" "Z", Cond.fieldLink RJ0 15 "java/lang/String" "coder" "B", Cond.methodLink RX11 104 yJ0_charAt_5068e, Cond.instanceMethod yJ0_charAt_5068e, Cond.selects RJ0 yJ0_charAt_5068e yJ0_charAt_5068e, Cond.code yJ0_charAt_5068e cJ0_charAt_5068e 2 (some .char), Cond.methodLink RJ0 492 yJ0_isLatin1_aae02, Cond.instanceMethod yJ0_isLatin1_aae02, Cond.selects RJ0 yJ0_isLatin1_aae02 yJ0_isLatin1_aae02, Cond.code yJ0_isLatin1_aae02 cJ0_isLatin1_aae02 1 (some .boolean), Cond.methodLink RJ0 495 yJ1_charAt_3b067, Cond.static yJ1_charAt_3b067, Cond.initialized RJ1, Cond.code yJ1_charAt_3b067 cJ1_charAt_3b067 2 (some .char), Cond.methodLink RJ1 9 yJ0_checkIndex_df160, Cond.static yJ0_checkIndex_df160, Cond.code yJ0_checkIndex_df160 cJ0_checkIndex_df160 2 none, Cond.fieldLink RJ0 1053 "jdk/internal/util/Preconditions" "SIOOBE_FORMATTER" "Ljava/util/function/BiFunction;", Cond.methodLink RJ0 1059 yJ3_checkIndex_8e157]
def wsL_law_r8 : List Cond := [Cond.static yJ3_checkIndex_8e157, Cond.initialized RJ3, Cond.code yJ3_checkIndex_8e157 cJ3_checkIndex_8e157 3 (some .int), Cond.methodLink RJ0 498 yJ2_charAt_3b067, Cond.static yJ2_charAt_3b067, Cond.initialized RJ2, Cond.code yJ2_charAt_3b067 cJ2_charAt_3b067 2 (some .char), Cond.methodLink RJ2 67 yJ2_checkIndex_2214a, Cond.static yJ2_checkIndex_2214a, Cond.code yJ2_checkIndex_2214a cJ2_checkIndex_2214a 2 none, Cond.methodLink RJ2 48 yJ2_length_9d52b, Cond.static yJ2_length_9d52b, Cond.code yJ2_length_9d52b cJ2_length_9d52b 1 (some .int), Cond.methodLink RJ2 414 yJ0_checkIndex_df160, Cond.methodLink RJ2 71 yJ2_getChar_3b067, Cond.static yJ2_getChar_3b067, Cond.code yJ2_getChar_3b067 cJ2_getChar_3b067 2 (some .char), Cond.fieldLink RJ2 44 "java/lang/StringUTF16" "$assertionsDisabled" "Z", Cond.fieldLink RJ2 59 "java/lang/StringUTF16" "HI_BYTE_SHIFT" "I", Cond.fieldLink RJ2 63 "java/lang/StringUTF16" "LO_BYTE_SHIFT" "I", Cond.methodLink RX11 108 yX8_append, Cond.instanceMethod yX8_append, Cond.selects RX8 yX8_append yX8_append, Cond.code yX8_append cX8_append 2 (some .boolean)]
def wsL_law_r9 : List Cond := [Cond.methodLink RX11 112 yX6_readAll, Cond.instanceMethod yX6_readAll, Cond.selects RX6 yX6_readAll yX6_readAll, Cond.code yX6_readAll cX6_readAll 5 (some .int), Cond.methodLink RX6 26 yX7_clear, Cond.instanceMethod yX7_clear, Cond.selects RX7 yX7_clear yX7_clear, Cond.code yX7_clear cX7_clear 2 none, Cond.methodLink RX6 34 yX6_readItem, Cond.instanceMethod yX6_readItem, Cond.selects RX6 yX6_readItem yX6_readItem, Cond.code yX6_readItem cX6_readItem 4 (some .int), Cond.methodLink RX6 38 yX8_at, Cond.instanceMethod yX8_at, Cond.selects RX8 yX8_at yX8_at, Cond.code yX8_at cX8_at 2 (some .char), Cond.methodLink RX6 42 yX6_readGrid, Cond.instanceMethod yX6_readGrid, Cond.selects RX6 yX6_readGrid yX6_readGrid, Cond.code yX6_readGrid cX6_readGrid 5 (some .int), Cond.methodLink RX6 54 yX6_sideOf, Cond.static yX6_sideOf, Cond.code yX6_sideOf cX6_sideOf 1 (some .int), Cond.static yX11_isFrom]
def wsL_law_r10 : List Cond := [Cond.code yX11_isFrom cX11_isFrom 3 (some .boolean), Cond.methodLink RX6 45 yX6_readRow, Cond.instanceMethod yX6_readRow, Cond.selects RX6 yX6_readRow yX6_readRow, Cond.code yX6_readRow cX6_readRow 6 (some .int), Cond.methodLink RX6 48 yX6_readDot, Cond.instanceMethod yX6_readDot, Cond.selects RX6 yX6_readDot yX6_readDot, Cond.code yX6_readDot cX6_readDot 5 (some .int), Cond.methodLink RX6 75 yX7_hasDot, Cond.instanceMethod yX7_hasDot, Cond.selects RX7 yX7_hasDot yX7_hasDot, Cond.code yX7_hasDot cX7_hasDot 4 (some .boolean), Cond.methodLink RX6 79 yX7_addDot, Cond.instanceMethod yX7_addDot, Cond.selects RX7 yX7_addDot yX7_addDot, Cond.code yX7_addDot cX7_addDot 3 none, Cond.methodLink RX6 51 yX6_readMetric, Cond.instanceMethod yX6_readMetric, Cond.selects RX6 yX6_readMetric yX6_readMetric, Cond.code yX6_readMetric cX6_readMetric 6 (some .int), Cond.methodLink RX11 117 yX7_copyFrom, Cond.instanceMethod yX7_copyFrom, Cond.selects RX7 yX7_copyFrom yX7_copyFrom]
def wsL_law_r11 : List Cond := [Cond.code yX7_copyFrom cX7_copyFrom 3 none, Cond.methodLink RL 12 yX12_init, Cond.instanceMethod yX12_init, Cond.code yX12_init cX12_init 2 none, Cond.methodLink RX12 1 objectInit, Cond.fieldLink RX12 7 "EdgeStencilModel" "now" "[I", Cond.fieldLink RX12 13 "EdgeStencilModel" "changes" "[I", Cond.fieldLink RX12 16 "EdgeStencilModel" "ledger" "[I", Cond.fieldLink RX12 19 "EdgeStencilModel" "scale" "I", Cond.fieldLink RX12 23 "EdgeStencilModel" "text" "[I", Cond.fieldLink RX12 26 "EdgeStencilModel" "fresh" "[I", Cond.fieldLink RX12 29 "EdgeStencilModel" "firstRows" "[I", Cond.fieldLink RX12 32 "EdgeStencilModel" "firstDots" "[I", Cond.fieldLink RX12 35 "EdgeStencilModel" "fars" "[I", Cond.fieldLink RX12 38 "EdgeStencilModel" "ranks" "[I", Cond.fieldLink RX12 41 "EdgeStencilModel" "chosen" "[I", Cond.fieldLink RX12 44 "EdgeStencilModel" "wide" "I", Cond.fieldLink RX12 47 "EdgeStencilModel" "high" "I", Cond.methodLink RX12 50 yX12_at, Cond.static yX12_at, Cond.code yX12_at cX12_at 2 (some .int), Cond.methodLink RX12 54 yX12_comesDot, Cond.static yX12_comesDot, Cond.code yX12_comesDot cX12_comesDot 3 none]
def wsL_law_r12 : List Cond := [Cond.methodLink RL 13 yX11_write, Cond.instanceMethod yX11_write, Cond.selects RX11 yX11_write yX11_write, Cond.code yX11_write cX11_write 2 (some .int), Cond.methodLink RL 17 yX12_write, Cond.instanceMethod yX12_write, Cond.selects RX12 yX12_write yX12_write, Cond.code yX12_write cX12_write 2 (some .int), Cond.fieldLink RX12 62 "EdgeStencilModel" "letterMany" "I", Cond.methodLink RX12 58 yX12_in, Cond.static yX12_in, Cond.code yX12_in cX12_in 3 (some .boolean), Cond.methodLink RL 18 yX11_wipe, Cond.instanceMethod yX11_wipe, Cond.selects RX11 yX11_wipe yX11_wipe, Cond.code yX11_wipe cX11_wipe 2 (some .int), Cond.methodLink RL 22 yX12_wipe, Cond.instanceMethod yX12_wipe, Cond.selects RX12 yX12_wipe yX12_wipe, Cond.code yX12_wipe cX12_wipe 2 (some .int), Cond.methodLink RL 23 yX11_fault, Cond.instanceMethod yX11_fault, Cond.selects RX11 yX11_fault yX11_fault, Cond.code yX11_fault cX11_fault 1 (some .int)]
def wsL_law_r13 : List Cond := [Cond.methodLink RL 26 yX12_fault, Cond.instanceMethod yX12_fault, Cond.selects RX12 yX12_fault yX12_fault, Cond.code yX12_fault cX12_fault 1 (some .int), Cond.methodLink RX12 101 yX12_reads, Cond.instanceMethod yX12_reads, Cond.selects RX12 yX12_reads yX12_reads, Cond.code yX12_reads cX12_reads 3 (some .int), Cond.fieldLink RX12 78 "EdgeStencilModel" "newRows" "I", Cond.methodLink RX12 98 yX12_readsItem, Cond.instanceMethod yX12_readsItem, Cond.selects RX12 yX12_readsItem yX12_readsItem, Cond.code yX12_readsItem cX12_readsItem 3 (some .int), Cond.fieldLink RX12 72 "EdgeStencilModel" "newWide" "I", Cond.methodLink RX12 65 yX12_letter, Cond.instanceMethod yX12_letter, Cond.selects RX12 yX12_letter yX12_letter, Cond.code yX12_letter cX12_letter 2 (some .int), Cond.methodLink RX12 85 yX12_readsGrid, Cond.instanceMethod yX12_readsGrid, Cond.selects RX12 yX12_readsGrid yX12_readsGrid, Cond.code yX12_readsGrid cX12_readsGrid 2 (some .boolean), Cond.fieldLink RX12 75 "EdgeStencilModel" "newHigh" "I", Cond.methodLink RX12 69 yX12_signOf]
def wsL_law_r14 : List Cond := [Cond.static yX12_signOf, Cond.code yX12_signOf cX12_signOf 1 (some .int), Cond.methodLink RX12 89 yX12_readsRow, Cond.instanceMethod yX12_readsRow, Cond.selects RX12 yX12_readsRow yX12_readsRow, Cond.code yX12_readsRow cX12_readsRow 4 (some .boolean), Cond.methodLink RX12 92 yX12_readsDot, Cond.instanceMethod yX12_readsDot, Cond.selects RX12 yX12_readsDot yX12_readsDot, Cond.code yX12_readsDot cX12_readsDot 4 (some .boolean), Cond.methodLink RX12 81 yX12_dotAt, Cond.static yX12_dotAt, Cond.code yX12_dotAt cX12_dotAt 4 (some .int), Cond.methodLink RX12 95 yX12_readsMeasure, Cond.instanceMethod yX12_readsMeasure, Cond.selects RX12 yX12_readsMeasure yX12_readsMeasure, Cond.code yX12_readsMeasure cX12_readsMeasure 6 (some .boolean), Cond.methodLink RL 27 yX11_lay, Cond.instanceMethod yX11_lay, Cond.selects RX11 yX11_lay yX11_lay, Cond.code yX11_lay cX11_lay 1 (some .int), Cond.methodLink RX11 133 yX11_lookAt, Cond.instanceMethod yX11_lookAt, Cond.selects RX11 yX11_lookAt yX11_lookAt]
def wsL_law_r15 : List Cond := [Cond.code yX11_lookAt cX11_lookAt 4 none, Cond.methodLink RX11 137 yX11_makeStale, Cond.instanceMethod yX11_makeStale, Cond.selects RX11 yX11_makeStale yX11_makeStale, Cond.code yX11_makeStale cX11_makeStale 1 none, Cond.methodLink RX11 140 yX7_edges, Cond.instanceMethod yX7_edges, Cond.selects RX7 yX7_edges yX7_edges, Cond.code yX7_edges cX7_edges 3 (some .int), Cond.methodLink RX7 41 yJ6_bitCount_0f7a4, Cond.static yJ6_bitCount_0f7a4, Cond.initialized RJ6, Cond.code yJ6_bitCount_0f7a4 cJ6_bitCount_0f7a4 1 (some .int), Cond.constant RJ6 265 (1431655765), Cond.constant RJ6 266 (858993459), Cond.constant RJ6 267 (252645135), Cond.methodLink RL 30 yX12_lay, Cond.instanceMethod yX12_lay, Cond.selects RX12 yX12_lay yX12_lay, Cond.code yX12_lay cX12_lay 2 (some .int), Cond.fieldLink RX12 105 "EdgeStencilModel" "changeMany" "I", Cond.fieldLink RX12 108 "EdgeStencilModel" "quarters" "I", Cond.fieldLink RX12 111 "EdgeStencilModel" "flipped" "I", Cond.methodLink RX12 114 yX12_edges]
def wsL_law_r16 : List Cond := [Cond.instanceMethod yX12_edges, Cond.selects RX12 yX12_edges yX12_edges, Cond.code yX12_edges cX12_edges 3 (some .int), Cond.methodLink RL 31 yX11_edge, Cond.instanceMethod yX11_edge, Cond.selects RX11 yX11_edge yX11_edge, Cond.code yX11_edge cX11_edge 4 (some .int), Cond.methodLink RX11 143 yX7_has, Cond.instanceMethod yX7_has, Cond.selects RX7 yX7_has yX7_has, Cond.code yX7_has cX7_has 3 (some .boolean), Cond.methodLink RX11 147 yX11_isFrom, Cond.methodLink RX11 151 yX7_edgeAt, Cond.instanceMethod yX7_edgeAt, Cond.selects RX7 yX7_edgeAt yX7_edgeAt, Cond.code yX7_edgeAt cX7_edgeAt 3 (some .int), Cond.methodLink RX7 37 yX7_has, Cond.methodLink RX11 155 yX11_startChange, Cond.instanceMethod yX11_startChange, Cond.selects RX11 yX11_startChange yX11_startChange, Cond.code yX11_startChange cX11_startChange 1 none, Cond.methodLink RX11 290 yX3_keep, Cond.instanceMethod yX3_keep, Cond.selects RX3 yX3_keep yX3_keep]
def wsL_law_r17 : List Cond := [Cond.code yX3_keep cX3_keep 3 none, Cond.methodLink RX3 33 Lib.Math.min.name, Cond.static Lib.Math.min.name, Cond.initialized "java/lang/Math", Cond.code Lib.Math.min.name Lib.Math.min.code 2 (some .int), Cond.methodLink RX3 29 yX7_copyFrom, Cond.methodLink RX11 158 yX7_flipEdge, Cond.instanceMethod yX7_flipEdge, Cond.selects RX7 yX7_flipEdge yX7_flipEdge, Cond.code yX7_flipEdge cX7_flipEdge 3 none, Cond.methodLink RL 35 yX12_edge, Cond.instanceMethod yX12_edge, Cond.selects RX12 yX12_edge yX12_edge, Cond.code yX12_edge cX12_edge 4 (some .int), Cond.methodLink RX12 120 yX12_isCell, Cond.instanceMethod yX12_isCell, Cond.selects RX12 yX12_isCell yX12_isCell, Cond.code yX12_isCell cX12_isCell 3 (some .boolean), Cond.methodLink RX12 124 yX12_remembers, Cond.instanceMethod yX12_remembers, Cond.selects RX12 yX12_remembers yX12_remembers, Cond.code yX12_remembers cX12_remembers 2 none, Cond.fieldLink RX12 117 "EdgeStencilModel" "changeAt" "I", Cond.methodLink RL 36 yX11_dot]
def wsL_law_r18 : List Cond := [Cond.instanceMethod yX11_dot, Cond.selects RX11 yX11_dot yX11_dot, Cond.code yX11_dot cX11_dot 3 (some .int), Cond.methodLink RX11 162 yX7_hasDot, Cond.methodLink RX11 165 yX7_addDot, Cond.methodLink RL 40 yX12_dot, Cond.instanceMethod yX12_dot, Cond.selects RX12 yX12_dot yX12_dot, Cond.code yX12_dot cX12_dot 3 (some .int), Cond.methodLink RL 41 yX11_drop, Cond.instanceMethod yX11_drop, Cond.selects RX11 yX11_drop yX11_drop, Cond.code yX11_drop cX11_drop 2 (some .int), Cond.methodLink RX11 168 yX11_isDot, Cond.instanceMethod yX11_isDot, Cond.selects RX11 yX11_isDot yX11_isDot, Cond.code yX11_isDot cX11_isDot 2 (some .boolean), Cond.methodLink RX11 172 yX7_removeDot, Cond.instanceMethod yX7_removeDot, Cond.selects RX7 yX7_removeDot yX7_removeDot, Cond.code yX7_removeDot cX7_removeDot 3 none, Cond.methodLink RL 44 yX12_drop, Cond.instanceMethod yX12_drop, Cond.selects RX12 yX12_drop yX12_drop]
def wsL_law_r19 : List Cond := [Cond.code yX12_drop cX12_drop 3 (some .int), Cond.methodLink RX12 127 yX12_isDot, Cond.instanceMethod yX12_isDot, Cond.selects RX12 yX12_isDot yX12_isDot, Cond.code yX12_isDot cX12_isDot 2 (some .boolean), Cond.methodLink RL 45 yX11_measure, Cond.instanceMethod yX11_measure, Cond.selects RX11 yX11_measure yX11_measure, Cond.code yX11_measure cX11_measure 4 (some .int), Cond.methodLink RL 48 yX12_measure, Cond.instanceMethod yX12_measure, Cond.selects RX12 yX12_measure yX12_measure, Cond.code yX12_measure cX12_measure 4 (some .int), Cond.methodLink RL 49 yX11_undo, Cond.instanceMethod yX11_undo, Cond.selects RX11 yX11_undo yX11_undo, Cond.code yX11_undo cX11_undo 1 (some .int), Cond.methodLink RX11 182 yX3_restoreLatest, Cond.instanceMethod yX3_restoreLatest, Cond.selects RX3 yX3_restoreLatest yX3_restoreLatest, Cond.code yX3_restoreLatest cX3_restoreLatest 3 none, Cond.methodLink RL 52 yX12_undo, Cond.instanceMethod yX12_undo, Cond.selects RX12 yX12_undo yX12_undo]
def wsL_law_r20 : List Cond := [Cond.code yX12_undo cX12_undo 2 (some .int), Cond.methodLink RL 53 yX11_cell, Cond.instanceMethod yX11_cell, Cond.selects RX11 yX11_cell yX11_cell, Cond.code yX11_cell cX11_cell 3 (some .int), Cond.methodLink RL 56 yX12_cell, Cond.instanceMethod yX12_cell, Cond.selects RX12 yX12_cell yX12_cell, Cond.code yX12_cell cX12_cell 3 (some .int), Cond.methodLink RL 57 yX11_far, Cond.instanceMethod yX11_far, Cond.selects RX11 yX11_far yX11_far, Cond.code yX11_far cX11_far 3 (some .int), Cond.methodLink RX11 186 yX11_freshField, Cond.instanceMethod yX11_freshField, Cond.selects RX11 yX11_freshField yX11_freshField, Cond.code yX11_freshField cX11_freshField 1 (some (.object "EdgeStencil$Field")), Cond.methodLink RX11 294 yX1_workOut, Cond.instanceMethod yX1_workOut, Cond.selects RX1 yX1_workOut yX1_workOut, Cond.code yX1_workOut cX1_workOut 7 none, Cond.fieldLink RX1 35 "EdgeStencil$Field" "STRAIGHT_STEP" "[I", Cond.fieldLink RX1 38 "EdgeStencil$Field" "SLANTED_STEP" "[I", Cond.methodLink RX1 22 yX1_start]
def wsL_law_r21 : List Cond := [Cond.instanceMethod yX1_start, Cond.selects RX1 yX1_start yX1_start, Cond.code yX1_start cX1_start 4 none, Cond.methodLink RX1 54 yX7_edgeAt, Cond.methodLink RX1 41 yX1_indexOf, Cond.static yX1_indexOf, Cond.code yX1_indexOf cX1_indexOf 2 (some .int), Cond.methodLink RX1 45 yX1_stepTo, Cond.instanceMethod yX1_stepTo, Cond.selects RX1 yX1_stepTo yX1_stepTo, Cond.code yX1_stepTo cX1_stepTo 8 none, Cond.methodLink RX1 57 Lib.Math.min.name, Cond.methodLink RX11 190 yX1_at, Cond.instanceMethod yX1_at, Cond.selects RX1 yX1_at yX1_at, Cond.code yX1_at cX1_at 3 (some .int), Cond.methodLink RL 60 yX12_far, Cond.instanceMethod yX12_far, Cond.selects RX12 yX12_far yX12_far, Cond.code yX12_far cX12_far 3 (some .int), Cond.methodLink RX12 137 yX12_farOf, Cond.instanceMethod yX12_farOf, Cond.selects RX12 yX12_farOf yX12_farOf, Cond.code yX12_farOf cX12_farOf 5 (some .int)]
def wsL_law_r22 : List Cond := [Cond.methodLink RX12 134 yX12_nearestOf, Cond.instanceMethod yX12_nearestOf, Cond.selects RX12 yX12_nearestOf yX12_nearestOf, Cond.code yX12_nearestOf cX12_nearestOf 7 (some .int), Cond.methodLink RX12 130 yX12_apart, Cond.instanceMethod yX12_apart, Cond.selects RX12 yX12_apart yX12_apart, Cond.code yX12_apart cX12_apart 8 (some .int), Cond.methodLink RL 61 yX11_nearest, Cond.instanceMethod yX11_nearest, Cond.selects RX11 yX11_nearest yX11_nearest, Cond.code yX11_nearest cX11_nearest 8 (some .int), Cond.constant RX11 195 (2147483647), Cond.methodLink RX11 202 yX7_apart, Cond.instanceMethod yX7_apart, Cond.selects RX7 yX7_apart yX7_apart, Cond.code yX7_apart cX7_apart 6 (some .int), Cond.methodLink RX7 47 Lib.Math.abs.name, Cond.static Lib.Math.abs.name, Cond.code Lib.Math.abs.name Lib.Math.abs.code 1 (some .int), Cond.methodLink RX7 52 Lib.Math.max.name, Cond.static Lib.Math.max.name, Cond.code Lib.Math.max.name Lib.Math.max.code 2 (some .int), Cond.methodLink RX7 56 Lib.Math.min.name]
def wsL_law_r23 : List Cond := [Cond.methodLink RL 64 yX12_nearest, Cond.instanceMethod yX12_nearest, Cond.selects RX12 yX12_nearest yX12_nearest, Cond.code yX12_nearest cX12_nearest 4 (some .int), Cond.methodLink RL 65 yX11_rings, Cond.instanceMethod yX11_rings, Cond.selects RX11 yX11_rings yX11_rings, Cond.code yX11_rings cX11_rings 2 (some .int), Cond.methodLink RX11 205 yX1_cellsSoFar, Cond.instanceMethod yX1_cellsSoFar, Cond.selects RX1 yX1_cellsSoFar yX1_cellsSoFar, Cond.code yX1_cellsSoFar cX1_cellsSoFar 5 (some .int), Cond.methodLink RL 68 yX12_rings, Cond.instanceMethod yX12_rings, Cond.selects RX12 yX12_rings yX12_rings, Cond.code yX12_rings cX12_rings 5 (some .int), Cond.methodLink RL 69 yX11_turn, Cond.instanceMethod yX11_turn, Cond.selects RX11 yX11_turn yX11_turn, Cond.code yX11_turn cX11_turn 4 (some .int), Cond.methodLink RL 72 yX12_turn, Cond.instanceMethod yX12_turn, Cond.selects RX12 yX12_turn yX12_turn, Cond.code yX12_turn cX12_turn 4 (some .int)]
def wsL_law_r24 : List Cond := [Cond.methodLink RL 73 yX11_lies, Cond.instanceMethod yX11_lies, Cond.selects RX11 yX11_lies yX11_lies, Cond.code yX11_lies cX11_lies 4 (some .int), Cond.methodLink RX11 209 yX11_lookedAt, Cond.instanceMethod yX11_lookedAt, Cond.selects RX11 yX11_lookedAt yX11_lookedAt, Cond.code yX11_lookedAt cX11_lookedAt 1 (some (.object "EdgeStencil$Shape")), Cond.methodLink RX11 286 yX9_form, Cond.instanceMethod yX9_form, Cond.selects RX9 yX9_form yX9_form, Cond.code yX9_form cX9_form 10 none, Cond.methodLink RX9 43 yJ9_floorDiv_7cf53, Cond.static yJ9_floorDiv_7cf53, Cond.initialized RJ9, Cond.code yJ9_floorDiv_7cf53 cJ9_floorDiv_7cf53 3 (some .int), Cond.methodLink RX9 49 yX9_findBox, Cond.instanceMethod yX9_findBox, Cond.selects RX9 yX9_findBox yX9_findBox, Cond.code yX9_findBox cX9_findBox 2 none, Cond.methodLink RX9 52 Lib.Math.min.name, Cond.methodLink RX9 55 Lib.Math.max.name, Cond.methodLink RL 76 yX12_lies, Cond.instanceMethod yX12_lies]
def wsL_law_r25 : List Cond := [Cond.selects RX12 yX12_lies yX12_lies, Cond.code yX12_lies cX12_lies 3 (some .int), Cond.methodLink RX12 143 yX12_liesX, Cond.instanceMethod yX12_liesX, Cond.selects RX12 yX12_liesX yX12_liesX, Cond.code yX12_liesX cX12_liesX 7 (some .int), Cond.methodLink RX12 140 yX12_halved, Cond.static yX12_halved, Cond.code yX12_halved cX12_halved 2 (some .int), Cond.methodLink RX12 146 yX12_liesY, Cond.instanceMethod yX12_liesY, Cond.selects RX12 yX12_liesY yX12_liesY, Cond.code yX12_liesY cX12_liesY 7 (some .int), Cond.methodLink RL 77 yX11_pose, Cond.instanceMethod yX11_pose, Cond.selects RX11 yX11_pose yX11_pose, Cond.code yX11_pose cX11_pose 4 (some .int), Cond.methodLink RX11 220 yX2_weigh, Cond.instanceMethod yX2_weigh, Cond.selects RX2 yX2_weigh yX2_weigh, Cond.code yX2_weigh cX2_weigh 7 (some .boolean), Cond.methodLink RX2 30 yX9_isInside, Cond.instanceMethod yX9_isInside, Cond.selects RX9 yX9_isInside yX9_isInside]
def wsL_law_r26 : List Cond := [Cond.code yX9_isInside cX9_isInside 5 (some .boolean), Cond.methodLink RX2 49 yX1_indexOf, Cond.methodLink RL 80 yX12_pose, Cond.instanceMethod yX12_pose, Cond.selects RX12 yX12_pose yX12_pose, Cond.code yX12_pose cX12_pose 4 (some .int), Cond.fieldLink RX12 149 "EdgeStencilModel" "illIs" "I", Cond.fieldLink RX12 152 "EdgeStencilModel" "worstIs" "I", Cond.fieldLink RX12 158 "EdgeStencilModel" "worstDot" "I", Cond.fieldLink RX12 155 "EdgeStencilModel" "onEdges" "I", Cond.methodLink RX12 161 yX12_laysFars, Cond.instanceMethod yX12_laysFars, Cond.selects RX12 yX12_laysFars yX12_laysFars, Cond.code yX12_laysFars cX12_laysFars 3 none, Cond.methodLink RX12 164 yX12_looks, Cond.instanceMethod yX12_looks, Cond.selects RX12 yX12_looks yX12_looks, Cond.code yX12_looks cX12_looks 10 (some .boolean), Cond.methodLink RL 81 yX11_fits, Cond.instanceMethod yX11_fits, Cond.selects RX11 yX11_fits yX11_fits, Cond.code yX11_fits cX11_fits 5 (some .int), Cond.methodLink RX11 236 yX9_isInside, Cond.methodLink RL 84 yX12_fits]
def wsL_law_r27 : List Cond := [Cond.instanceMethod yX12_fits, Cond.selects RX12 yX12_fits yX12_fits, Cond.code yX12_fits cX12_fits 3 (some .int), Cond.methodLink RL 85 yX11_bound, Cond.instanceMethod yX11_bound, Cond.selects RX11 yX11_bound yX11_bound, Cond.code yX11_bound cX11_bound 13 (some .int), Cond.methodLink RX11 240 Lib.Math.min.name, Cond.methodLink RX11 246 yX1_leastIn, Cond.instanceMethod yX1_leastIn, Cond.selects RX1 yX1_leastIn yX1_leastIn, Cond.code yX1_leastIn cX1_leastIn 9 (some .int), Cond.methodLink RX1 62 Lib.Math.max.name, Cond.methodLink RL 88 yX12_bound, Cond.instanceMethod yX12_bound, Cond.selects RX12 yX12_bound yX12_bound, Cond.code yX12_bound cX12_bound 12 (some .int), Cond.constant RX12 168 (2147483647), Cond.methodLink RL 89 yX11_tells, Cond.instanceMethod yX11_tells, Cond.selects RX11 yX11_tells yX11_tells, Cond.code yX11_tells cX11_tells 5 (some .int), Cond.methodLink RX11 250 yX10_seek, Cond.instanceMethod yX10_seek]
def wsL_law_r28 : List Cond := [Cond.selects RX10 yX10_seek yX10_seek, Cond.code yX10_seek cX10_seek 9 (some .int), Cond.methodLink RX10 15 yX7_edgeAt, Cond.methodLink RX10 21 yX10_isNear, Cond.static yX10_isNear, Cond.code yX10_isNear cX10_isNear 6 (some .boolean), Cond.methodLink RX10 37 yX7_apart, Cond.methodLink RL 92 yX12_tells, Cond.instanceMethod yX12_tells, Cond.selects RX12 yX12_tells yX12_tells, Cond.code yX12_tells cX12_tells 4 (some .int), Cond.methodLink RX12 173 yX12_toldMany, Cond.instanceMethod yX12_toldMany, Cond.selects RX12 yX12_toldMany yX12_toldMany, Cond.code yX12_toldMany cX12_toldMany 9 (some .int), Cond.methodLink RX12 169 yX12_isTold, Cond.instanceMethod yX12_isTold, Cond.selects RX12 yX12_isTold yX12_isTold, Cond.code yX12_isTold cX12_isTold 10 (some .boolean), Cond.methodLink RL 93 yX11_best, Cond.instanceMethod yX11_best, Cond.selects RX11 yX11_best yX11_best, Cond.code yX11_best cX11_best 4 (some .int), Cond.methodLink RX11 254 yX11_freshRanking]
def wsL_law_r29 : List Cond := [Cond.instanceMethod yX11_freshRanking, Cond.selects RX11 yX11_freshRanking yX11_freshRanking, Cond.code yX11_freshRanking cX11_freshRanking 1 (some (.object "EdgeStencil$Ranking")), Cond.methodLink RX11 297 yX5_seek, Cond.instanceMethod yX5_seek, Cond.selects RX5 yX5_seek yX5_seek, Cond.code yX5_seek cX5_seek 7 none, Cond.constant RX5 51 (2147483647), Cond.methodLink RX5 52 yX4_scaleOf, Cond.static yX4_scaleOf, Cond.initialized RX4, Cond.code yX4_scaleOf cX4_scaleOf 1 (some .int), Cond.methodLink RX5 56 yX4_turnsOf, Cond.static yX4_turnsOf, Cond.code yX4_turnsOf cX4_turnsOf 1 (some .int), Cond.methodLink RX5 59 yX4_flipOf, Cond.static yX4_flipOf, Cond.code yX4_flipOf cX4_flipOf 1 (some .int), Cond.methodLink RX5 62 yX9_form, Cond.methodLink RX5 74 yX2_weigh, Cond.methodLink RX5 78 yX4_of, Cond.static yX4_of, Cond.code yX4_of cX4_of 3 (some .int), Cond.methodLink RX5 82 yX5_enter]
def wsL_law_r30 : List Cond := [Cond.instanceMethod yX5_enter, Cond.selects RX5 yX5_enter yX5_enter, Cond.code yX5_enter cX5_enter 4 none, Cond.methodLink RX5 86 Lib.Math.min.name, Cond.methodLink RX11 264 yX11_partOf, Cond.static yX11_partOf, Cond.code yX11_partOf cX11_partOf 4 (some .int), Cond.methodLink RX11 300 yX4_part, Cond.static yX4_part, Cond.code yX4_part cX4_part 5 (some .int), Cond.methodLink RX4 22 yX4_scaleOf, Cond.methodLink RX4 26 yX4_turnsOf, Cond.methodLink RX4 29 yX4_flipOf, Cond.methodLink RL 96 yX12_best, Cond.instanceMethod yX12_best, Cond.selects RX12 yX12_best yX12_best, Cond.code yX12_best cX12_best 3 (some .int), Cond.methodLink RX12 199 yX12_chosenIs, Cond.instanceMethod yX12_chosenIs, Cond.selects RX12 yX12_chosenIs yX12_chosenIs, Cond.code yX12_chosenIs cX12_chosenIs 4 (some .int), Cond.fieldLink RX12 180 "EdgeStencilModel" "chosenMany" "I", Cond.methodLink RX12 192 yX12_chooses, Cond.instanceMethod yX12_chooses]
def wsL_law_r31 : List Cond := [Cond.selects RX12 yX12_chooses yX12_chooses, Cond.code yX12_chooses cX12_chooses 5 none, Cond.fieldLink RX12 177 "EdgeStencilModel" "rankMany" "I", Cond.methodLink RX12 186 yX12_laysRanks, Cond.instanceMethod yX12_laysRanks, Cond.selects RX12 yX12_laysRanks yX12_laysRanks, Cond.code yX12_laysRanks cX12_laysRanks 6 none, Cond.methodLink RX12 189 yX12_isApart, Cond.instanceMethod yX12_isApart, Cond.selects RX12 yX12_isApart yX12_isApart, Cond.code yX12_isApart cX12_isApart 7 (some .boolean), Cond.methodLink RX12 183 yX12_placeOf, Cond.static yX12_placeOf, Cond.code yX12_placeOf cX12_placeOf 1 (some .int), Cond.methodLink RX12 196 yX12_partOf, Cond.static yX12_partOf, Cond.code yX12_partOf cX12_partOf 4 (some .int), Cond.methodLink RL 97 yX11_spread, Cond.instanceMethod yX11_spread, Cond.selects RX11 yX11_spread yX11_spread, Cond.code yX11_spread cX11_spread 5 (some .int), Cond.methodLink RX11 268 yX5_chooseApart, Cond.instanceMethod yX5_chooseApart, Cond.selects RX5 yX5_chooseApart yX5_chooseApart]
def wsL_law_r32 : List Cond := [Cond.code yX5_chooseApart cX5_chooseApart 4 none, Cond.methodLink RX5 92 yX5_firstOpen, Cond.instanceMethod yX5_firstOpen, Cond.selects RX5 yX5_firstOpen yX5_firstOpen, Cond.code yX5_firstOpen cX5_firstOpen 3 (some .int), Cond.methodLink RX5 96 yX4_part, Cond.methodLink RX5 99 yX5_closeAround, Cond.instanceMethod yX5_closeAround, Cond.selects RX5 yX5_closeAround yX5_closeAround, Cond.code yX5_closeAround cX5_closeAround 7 none, Cond.methodLink RX5 103 Lib.Math.abs.name, Cond.methodLink RL 100 yX12_spread, Cond.instanceMethod yX12_spread, Cond.selects RX12 yX12_spread yX12_spread, Cond.code yX12_spread cX12_spread 4 (some .int), Cond.methodLink RL 101 yX11_take, Cond.instanceMethod yX11_take, Cond.selects RX11 yX11_take yX11_take, Cond.code yX11_take cX11_take 3 (some .int), Cond.methodLink RX11 277 yX11_takeFirst, Cond.instanceMethod yX11_takeFirst, Cond.selects RX11 yX11_takeFirst yX11_takeFirst, Cond.code yX11_takeFirst cX11_takeFirst 6 (some .int), Cond.methodLink RX11 308 yX7_clearEdges]
def wsL_law_r33 : List Cond := [Cond.instanceMethod yX7_clearEdges, Cond.selects RX7 yX7_clearEdges yX7_clearEdges, Cond.code yX7_clearEdges cX7_clearEdges 3 none, Cond.methodLink RX11 312 yX0_add, Cond.instanceMethod yX0_add, Cond.selects RX0 yX0_add yX0_add, Cond.code yX0_add cX0_add 3 none, Cond.methodLink RL 104 yX12_take, Cond.instanceMethod yX12_take, Cond.selects RX12 yX12_take yX12_take, Cond.code yX12_take cX12_take 3 (some .int), Cond.methodLink RX12 203 yX12_isTaking, Cond.static yX12_isTaking, Cond.code yX12_isTaking cX12_isTaking 2 (some .boolean), Cond.methodLink RX12 206 yX12_takeOne, Cond.instanceMethod yX12_takeOne, Cond.selects RX12 yX12_takeOne yX12_takeOne, Cond.code yX12_takeOne cX12_takeOne 11 (some .int), Cond.methodLink RL 105 yX11_takes, Cond.instanceMethod yX11_takes, Cond.selects RX11 yX11_takes yX11_takes, Cond.code yX11_takes cX11_takes 5 (some .int), Cond.methodLink RL 108 yX12_takes, Cond.instanceMethod yX12_takes]
def wsL_law_r34 : List Cond := [Cond.selects RX12 yX12_takes yX12_takes, Cond.code yX12_takes cX12_takes 4 (some .int), Cond.methodLink RL 109 yX11_ledger, Cond.instanceMethod yX11_ledger, Cond.selects RX11 yX11_ledger yX11_ledger, Cond.code yX11_ledger cX11_ledger 3 (some .int), Cond.methodLink RL 112 yX12_ledger, Cond.instanceMethod yX12_ledger, Cond.selects RX12 yX12_ledger yX12_ledger, Cond.code yX12_ledger cX12_ledger 3 (some .int), Cond.methodLink RL 113 yX11_count, Cond.instanceMethod yX11_count, Cond.selects RX11 yX11_count yX11_count, Cond.code yX11_count cX11_count 2 (some .int), Cond.methodLink RL 116 yX12_count, Cond.instanceMethod yX12_count, Cond.selects RX12 yX12_count yX12_count, Cond.code yX12_count cX12_count 2 (some .int)]
def wsL_law : List Cond := (wsL_law_r1 ++ (wsL_law_r2 ++ (wsL_law_r3 ++ (wsL_law_r4 ++ (wsL_law_r5 ++ (wsL_law_r6 ++ (wsL_law_r7 ++ (wsL_law_r8 ++ (wsL_law_r9 ++ (wsL_law_r10 ++ (wsL_law_r11 ++ (wsL_law_r12 ++ (wsL_law_r13 ++ (wsL_law_r14 ++ (wsL_law_r15 ++ (wsL_law_r16 ++ (wsL_law_r17 ++ (wsL_law_r18 ++ (wsL_law_r19 ++ (wsL_law_r20 ++ (wsL_law_r21 ++ (wsL_law_r22 ++ (wsL_law_r23 ++ (wsL_law_r24 ++ (wsL_law_r25 ++ (wsL_law_r26 ++ (wsL_law_r27 ++ (wsL_law_r28 ++ (wsL_law_r29 ++ (wsL_law_r30 ++ (wsL_law_r31 ++ (wsL_law_r32 ++ (wsL_law_r33 ++ wsL_law_r34))))))))))))))))))))))))))))))))) ++ wsX110 ++ wsX120 ++ wsX80 ++ wsX60 ++ wsX70 ++ wsX30 ++ wsX00 ++ wsX10 ++ wsX50 ++ wsX90 ++ wsX20 ++ wsX100 ++ ([] : List Cond)
theorem inlX0 : ∀ w ∈ wsX00, w ∈ wsL_law := fun _ h => List.mem_append_left _ (List.mem_append_left _ (List.mem_append_left _ (List.mem_append_left _ (List.mem_append_left _ (List.mem_append_left _ (List.mem_append_right _ h))))))
theorem inlX1 : ∀ w ∈ wsX10, w ∈ wsL_law := fun _ h => List.mem_append_left _ (List.mem_append_left _ (List.mem_append_left _ (List.mem_append_left _ (List.mem_append_left _ (List.mem_append_right _ h)))))
theorem inlX2 : ∀ w ∈ wsX20, w ∈ wsL_law := fun _ h => List.mem_append_left _ (List.mem_append_left _ (List.mem_append_right _ h))
theorem inlX3 : ∀ w ∈ wsX30, w ∈ wsL_law := fun _ h => List.mem_append_left _ (List.mem_append_left _ (List.mem_append_left _ (List.mem_append_left _ (List.mem_append_left _ (List.mem_append_left _ (List.mem_append_left _ (List.mem_append_right _ h)))))))
theorem inlX5 : ∀ w ∈ wsX50, w ∈ wsL_law := fun _ h => List.mem_append_left _ (List.mem_append_left _ (List.mem_append_left _ (List.mem_append_left _ (List.mem_append_right _ h))))
theorem inlX6 : ∀ w ∈ wsX60, w ∈ wsL_law := fun _ h => List.mem_append_left _ (List.mem_append_left _ (List.mem_append_left _ (List.mem_append_left _ (List.mem_append_left _ (List.mem_append_left _ (List.mem_append_left _ (List.mem_append_left _ (List.mem_append_left _ (List.mem_append_right _ h)))))))))
theorem inlX7 : ∀ w ∈ wsX70, w ∈ wsL_law := fun _ h => List.mem_append_left _ (List.mem_append_left _ (List.mem_append_left _ (List.mem_append_left _ (List.mem_append_left _ (List.mem_append_left _ (List.mem_append_left _ (List.mem_append_left _ (List.mem_append_right _ h))))))))
theorem inlX8 : ∀ w ∈ wsX80, w ∈ wsL_law := fun _ h => List.mem_append_left _ (List.mem_append_left _ (List.mem_append_left _ (List.mem_append_left _ (List.mem_append_left _ (List.mem_append_left _ (List.mem_append_left _ (List.mem_append_left _ (List.mem_append_left _ (List.mem_append_left _ (List.mem_append_right _ h))))))))))
theorem inlX9 : ∀ w ∈ wsX90, w ∈ wsL_law := fun _ h => List.mem_append_left _ (List.mem_append_left _ (List.mem_append_left _ (List.mem_append_right _ h)))
theorem inlX10 : ∀ w ∈ wsX100, w ∈ wsL_law := fun _ h => List.mem_append_left _ (List.mem_append_right _ h)
theorem inlX11 : ∀ w ∈ wsX110, w ∈ wsL_law := fun _ h => List.mem_append_left _ (List.mem_append_left _ (List.mem_append_left _ (List.mem_append_left _ (List.mem_append_left _ (List.mem_append_left _ (List.mem_append_left _ (List.mem_append_left _ (List.mem_append_left _ (List.mem_append_left _ (List.mem_append_left _ (List.mem_append_left _ (List.mem_append_right _ h))))))))))))
theorem inlX12 : ∀ w ∈ wsX120, w ∈ wsL_law := fun _ h => List.mem_append_left _ (List.mem_append_left _ (List.mem_append_left _ (List.mem_append_left _ (List.mem_append_left _ (List.mem_append_left _ (List.mem_append_left _ (List.mem_append_left _ (List.mem_append_left _ (List.mem_append_left _ (List.mem_append_left _ (List.mem_append_right _ h)))))))))))
end
section
/-! ===== the nest mates' links, as lists; the words by their places ===== -/
def nwF : List (String × Nat × String × String × String × String) := [(RX11, 121, RX8, "length", "I", RX11), (RX6, 29, RX8, "length", "I", RX11), (RX5, 71, RX7, "width", "I", RX11), (RX1, 49, RX7, "width", "I", RX11), (RX6, 62, RX7, "width", "I", RX11), (RX11, 199, RX7, "width", "I", RX11), (RX5, 66, RX7, "height", "I", RX11), (RX1, 50, RX7, "height", "I", RX11), (RX6, 65, RX7, "height", "I", RX11), (RX11, 196, RX7, "height", "I", RX11), (RX6, 68, RX7, "rows", "[I", RX11), (RX9, 37, RX7, "dotX", "[I", RX11), (RX9, 40, RX7, "dotY", "[I", RX11), (RX9, 34, RX7, "dots", "I", RX11), (RX11, 126, RX7, "dots", "I", RX11), (RX6, 72, RX7, "dots", "I", RX11), (RX1, 26, RX7, "metric", "I", RX11), (RX6, 83, RX7, "metric", "I", RX11), (RX11, 176, RX7, "metric", "I", RX11), (RX1, 51, RX7, "cap", "I", RX11), (RX6, 86, RX7, "cap", "I", RX11), (RX11, 179, RX7, "cap", "I", RX11), (RX11, 116, RX6, "scene", "LEdgeStencil$Scene;", RX11), (RX11, 123, RX6, "gridTold", "Z", RX11), (RX11, 129, RX3, "size", "I", RX11), (RX11, 283, RX0, "ranks", "[I", RX11), (RX11, 280, RX0, "gone", "[I", RX11), (RX3, 39, RX0, "size", "I", RX11), (RX11, 132, RX0, "size", "I", RX11), (RX2, 39, RX1, "fars", "[I", RX11), (RX2, 22, RX1, "width", "I", RX11), (RX2, 27, RX1, "height", "I", RX11), (RX2, 43, RX9, "dx", "[I", RX11), (RX10, 31, RX9, "dx", "[I", RX11), (RX11, 213, RX9, "dx", "[I", RX11), (RX2, 46, RX9, "dy", "[I", RX11), (RX10, 34, RX9, "dy", "[I", RX11), (RX11, 217, RX9, "dy", "[I", RX11), (RX2, 36, RX9, "dots", "I", RX11), (RX10, 25, RX9, "dots", "I", RX11), (RX11, 245, RX9, "dots", "I", RX11), (RX4, 13, RX2, "ill", "I", RX11), (RX11, 224, RX2, "ill", "I", RX11), (RX4, 19, RX2, "worst", "I", RX11), (RX11, 227, RX2, "worst", "I", RX11), (RX11, 230, RX2, "worstDot", "I", RX11), (RX11, 233, RX2, "onEdges", "I", RX11), (RX11, 258, RX5, "first", "[I", RX11), (RX11, 261, RX5, "found", "I", RX11), (RX11, 271, RX5, "chosen", "[I", RX11), (RX11, 274, RX5, "chosenCount", "I", RX11), (RX11, 305, RX10, "rows", "[I", RX11)]
def nwM : List (String × Nat × MethodName × String) := [(RX11, 9, yX8_init, RX11), (RX11, 18, yX6_init, RX11), (RX6, 11, yX7_init, RX11), (RX11, 25, yX7_init, RX11), (RX3, 28, yX7_init, RX11), (RX11, 39, yX0_init, RX11), (RX11, 46, yX1_init, RX11), (RX11, 53, yX5_init, RX11), (RX5, 11, yX9_init, RX11), (RX5, 20, yX2_init, RX11), (RX11, 60, yX9_init, RX11), (RX11, 67, yX2_init, RX11), (RX11, 74, yX10_init, RX11), (RX6, 58, yX11_isFrom, RX11), (RX1, 31, yX11_isFrom, RX11)]
theorem in_r1 {w : Cond} (h : w ∈ wsL_law_r1) : w ∈ wsL_law := List.mem_append_left _ (List.mem_append_left _ (List.mem_append_left _ (List.mem_append_left _ (List.mem_append_left _ (List.mem_append_left _ (List.mem_append_left _ (List.mem_append_left _ (List.mem_append_left _ (List.mem_append_left _ (List.mem_append_left _ (List.mem_append_left _ (List.mem_append_left _ (List.mem_append_left _ h)))))))))))))
theorem in_r2 {w : Cond} (h : w ∈ wsL_law_r2) : w ∈ wsL_law := List.mem_append_left _ (List.mem_append_left _ (List.mem_append_left _ (List.mem_append_left _ (List.mem_append_left _ (List.mem_append_left _ (List.mem_append_left _ (List.mem_append_left _ (List.mem_append_left _ (List.mem_append_left _ (List.mem_append_left _ (List.mem_append_left _ (List.mem_append_left _ (List.mem_append_right _ (List.mem_append_left _ h))))))))))))))
theorem in_r3 {w : Cond} (h : w ∈ wsL_law_r3) : w ∈ wsL_law := List.mem_append_left _ (List.mem_append_left _ (List.mem_append_left _ (List.mem_append_left _ (List.mem_append_left _ (List.mem_append_left _ (List.mem_append_left _ (List.mem_append_left _ (List.mem_append_left _ (List.mem_append_left _ (List.mem_append_left _ (List.mem_append_left _ (List.mem_append_left _ (List.mem_append_right _ (List.mem_append_right _ (List.mem_append_left _ h)))))))))))))))
theorem in_r4 {w : Cond} (h : w ∈ wsL_law_r4) : w ∈ wsL_law := List.mem_append_left _ (List.mem_append_left _ (List.mem_append_left _ (List.mem_append_left _ (List.mem_append_left _ (List.mem_append_left _ (List.mem_append_left _ (List.mem_append_left _ (List.mem_append_left _ (List.mem_append_left _ (List.mem_append_left _ (List.mem_append_left _ (List.mem_append_left _ (List.mem_append_right _ (List.mem_append_right _ (List.mem_append_right _ (List.mem_append_left _ h))))))))))))))))
theorem in_r5 {w : Cond} (h : w ∈ wsL_law_r5) : w ∈ wsL_law := List.mem_append_left _ (List.mem_append_left _ (List.mem_append_left _ (List.mem_append_left _ (List.mem_append_left _ (List.mem_append_left _ (List.mem_append_left _ (List.mem_append_left _ (List.mem_append_left _ (List.mem_append_left _ (List.mem_append_left _ (List.mem_append_left _ (List.mem_append_left _ (List.mem_append_right _ (List.mem_append_right _ (List.mem_append_right _ (List.mem_append_right _ (List.mem_append_left _ h)))))))))))))))))
theorem in_r6 {w : Cond} (h : w ∈ wsL_law_r6) : w ∈ wsL_law := List.mem_append_left _ (List.mem_append_left _ (List.mem_append_left _ (List.mem_append_left _ (List.mem_append_left _ (List.mem_append_left _ (List.mem_append_left _ (List.mem_append_left _ (List.mem_append_left _ (List.mem_append_left _ (List.mem_append_left _ (List.mem_append_left _ (List.mem_append_left _ (List.mem_append_right _ (List.mem_append_right _ (List.mem_append_right _ (List.mem_append_right _ (List.mem_append_right _ (List.mem_append_left _ h))))))))))))))))))
theorem in_r7 {w : Cond} (h : w ∈ wsL_law_r7) : w ∈ wsL_law := List.mem_append_left _ (List.mem_append_left _ (List.mem_append_left _ (List.mem_append_left _ (List.mem_append_left _ (List.mem_append_left _ (List.mem_append_left _ (List.mem_append_left _ (List.mem_append_left _ (List.mem_append_left _ (List.mem_append_left _ (List.mem_append_left _ (List.mem_append_left _ (List.mem_append_right _ (List.mem_append_right _ (List.mem_append_right _ (List.mem_append_right _ (List.mem_append_right _ (List.mem_append_right _ (List.mem_append_left _ h)))))))))))))))))))
theorem in_r8 {w : Cond} (h : w ∈ wsL_law_r8) : w ∈ wsL_law := List.mem_append_left _ (List.mem_append_left _ (List.mem_append_left _ (List.mem_append_left _ (List.mem_append_left _ (List.mem_append_left _ (List.mem_append_left _ (List.mem_append_left _ (List.mem_append_left _ (List.mem_append_left _ (List.mem_append_left _ (List.mem_append_left _ (List.mem_append_left _ (List.mem_append_right _ (List.mem_append_right _ (List.mem_append_right _ (List.mem_append_right _ (List.mem_append_right _ (List.mem_append_right _ (List.mem_append_right _ (List.mem_append_left _ h))))))))))))))))))))
theorem in_r9 {w : Cond} (h : w ∈ wsL_law_r9) : w ∈ wsL_law := List.mem_append_left _ (List.mem_append_left _ (List.mem_append_left _ (List.mem_append_left _ (List.mem_append_left _ (List.mem_append_left _ (List.mem_append_left _ (List.mem_append_left _ (List.mem_append_left _ (List.mem_append_left _ (List.mem_append_left _ (List.mem_append_left _ (List.mem_append_left _ (List.mem_append_right _ (List.mem_append_right _ (List.mem_append_right _ (List.mem_append_right _ (List.mem_append_right _ (List.mem_append_right _ (List.mem_append_right _ (List.mem_append_right _ (List.mem_append_left _ h)))))))))))))))))))))
theorem in_r10 {w : Cond} (h : w ∈ wsL_law_r10) : w ∈ wsL_law := List.mem_append_left _ (List.mem_append_left _ (List.mem_append_left _ (List.mem_append_left _ (List.mem_append_left _ (List.mem_append_left _ (List.mem_append_left _ (List.mem_append_left _ (List.mem_append_left _ (List.mem_append_left _ (List.mem_append_left _ (List.mem_append_left _ (List.mem_append_left _ (List.mem_append_right _ (List.mem_append_right _ (List.mem_append_right _ (List.mem_append_right _ (List.mem_append_right _ (List.mem_append_right _ (List.mem_append_right _ (List.mem_append_right _ (List.mem_append_right _ (List.mem_append_left _ h))))))))))))))))))))))
theorem in_r11 {w : Cond} (h : w ∈ wsL_law_r11) : w ∈ wsL_law := List.mem_append_left _ (List.mem_append_left _ (List.mem_append_left _ (List.mem_append_left _ (List.mem_append_left _ (List.mem_append_left _ (List.mem_append_left _ (List.mem_append_left _ (List.mem_append_left _ (List.mem_append_left _ (List.mem_append_left _ (List.mem_append_left _ (List.mem_append_left _ (List.mem_append_right _ (List.mem_append_right _ (List.mem_append_right _ (List.mem_append_right _ (List.mem_append_right _ (List.mem_append_right _ (List.mem_append_right _ (List.mem_append_right _ (List.mem_append_right _ (List.mem_append_right _ (List.mem_append_left _ h)))))))))))))))))))))))
theorem in_r12 {w : Cond} (h : w ∈ wsL_law_r12) : w ∈ wsL_law := List.mem_append_left _ (List.mem_append_left _ (List.mem_append_left _ (List.mem_append_left _ (List.mem_append_left _ (List.mem_append_left _ (List.mem_append_left _ (List.mem_append_left _ (List.mem_append_left _ (List.mem_append_left _ (List.mem_append_left _ (List.mem_append_left _ (List.mem_append_left _ (List.mem_append_right _ (List.mem_append_right _ (List.mem_append_right _ (List.mem_append_right _ (List.mem_append_right _ (List.mem_append_right _ (List.mem_append_right _ (List.mem_append_right _ (List.mem_append_right _ (List.mem_append_right _ (List.mem_append_right _ (List.mem_append_left _ h))))))))))))))))))))))))
theorem in_r13 {w : Cond} (h : w ∈ wsL_law_r13) : w ∈ wsL_law := List.mem_append_left _ (List.mem_append_left _ (List.mem_append_left _ (List.mem_append_left _ (List.mem_append_left _ (List.mem_append_left _ (List.mem_append_left _ (List.mem_append_left _ (List.mem_append_left _ (List.mem_append_left _ (List.mem_append_left _ (List.mem_append_left _ (List.mem_append_left _ (List.mem_append_right _ (List.mem_append_right _ (List.mem_append_right _ (List.mem_append_right _ (List.mem_append_right _ (List.mem_append_right _ (List.mem_append_right _ (List.mem_append_right _ (List.mem_append_right _ (List.mem_append_right _ (List.mem_append_right _ (List.mem_append_right _ (List.mem_append_left _ h)))))))))))))))))))))))))
theorem in_r14 {w : Cond} (h : w ∈ wsL_law_r14) : w ∈ wsL_law := List.mem_append_left _ (List.mem_append_left _ (List.mem_append_left _ (List.mem_append_left _ (List.mem_append_left _ (List.mem_append_left _ (List.mem_append_left _ (List.mem_append_left _ (List.mem_append_left _ (List.mem_append_left _ (List.mem_append_left _ (List.mem_append_left _ (List.mem_append_left _ (List.mem_append_right _ (List.mem_append_right _ (List.mem_append_right _ (List.mem_append_right _ (List.mem_append_right _ (List.mem_append_right _ (List.mem_append_right _ (List.mem_append_right _ (List.mem_append_right _ (List.mem_append_right _ (List.mem_append_right _ (List.mem_append_right _ (List.mem_append_right _ (List.mem_append_left _ h))))))))))))))))))))))))))
theorem in_r15 {w : Cond} (h : w ∈ wsL_law_r15) : w ∈ wsL_law := List.mem_append_left _ (List.mem_append_left _ (List.mem_append_left _ (List.mem_append_left _ (List.mem_append_left _ (List.mem_append_left _ (List.mem_append_left _ (List.mem_append_left _ (List.mem_append_left _ (List.mem_append_left _ (List.mem_append_left _ (List.mem_append_left _ (List.mem_append_left _ (List.mem_append_right _ (List.mem_append_right _ (List.mem_append_right _ (List.mem_append_right _ (List.mem_append_right _ (List.mem_append_right _ (List.mem_append_right _ (List.mem_append_right _ (List.mem_append_right _ (List.mem_append_right _ (List.mem_append_right _ (List.mem_append_right _ (List.mem_append_right _ (List.mem_append_right _ (List.mem_append_left _ h)))))))))))))))))))))))))))
theorem in_r16 {w : Cond} (h : w ∈ wsL_law_r16) : w ∈ wsL_law := List.mem_append_left _ (List.mem_append_left _ (List.mem_append_left _ (List.mem_append_left _ (List.mem_append_left _ (List.mem_append_left _ (List.mem_append_left _ (List.mem_append_left _ (List.mem_append_left _ (List.mem_append_left _ (List.mem_append_left _ (List.mem_append_left _ (List.mem_append_left _ (List.mem_append_right _ (List.mem_append_right _ (List.mem_append_right _ (List.mem_append_right _ (List.mem_append_right _ (List.mem_append_right _ (List.mem_append_right _ (List.mem_append_right _ (List.mem_append_right _ (List.mem_append_right _ (List.mem_append_right _ (List.mem_append_right _ (List.mem_append_right _ (List.mem_append_right _ (List.mem_append_right _ (List.mem_append_left _ h))))))))))))))))))))))))))))
theorem in_r17 {w : Cond} (h : w ∈ wsL_law_r17) : w ∈ wsL_law := List.mem_append_left _ (List.mem_append_left _ (List.mem_append_left _ (List.mem_append_left _ (List.mem_append_left _ (List.mem_append_left _ (List.mem_append_left _ (List.mem_append_left _ (List.mem_append_left _ (List.mem_append_left _ (List.mem_append_left _ (List.mem_append_left _ (List.mem_append_left _ (List.mem_append_right _ (List.mem_append_right _ (List.mem_append_right _ (List.mem_append_right _ (List.mem_append_right _ (List.mem_append_right _ (List.mem_append_right _ (List.mem_append_right _ (List.mem_append_right _ (List.mem_append_right _ (List.mem_append_right _ (List.mem_append_right _ (List.mem_append_right _ (List.mem_append_right _ (List.mem_append_right _ (List.mem_append_right _ (List.mem_append_left _ h)))))))))))))))))))))))))))))
theorem in_r18 {w : Cond} (h : w ∈ wsL_law_r18) : w ∈ wsL_law := List.mem_append_left _ (List.mem_append_left _ (List.mem_append_left _ (List.mem_append_left _ (List.mem_append_left _ (List.mem_append_left _ (List.mem_append_left _ (List.mem_append_left _ (List.mem_append_left _ (List.mem_append_left _ (List.mem_append_left _ (List.mem_append_left _ (List.mem_append_left _ (List.mem_append_right _ (List.mem_append_right _ (List.mem_append_right _ (List.mem_append_right _ (List.mem_append_right _ (List.mem_append_right _ (List.mem_append_right _ (List.mem_append_right _ (List.mem_append_right _ (List.mem_append_right _ (List.mem_append_right _ (List.mem_append_right _ (List.mem_append_right _ (List.mem_append_right _ (List.mem_append_right _ (List.mem_append_right _ (List.mem_append_right _ (List.mem_append_left _ h))))))))))))))))))))))))))))))
theorem in_r19 {w : Cond} (h : w ∈ wsL_law_r19) : w ∈ wsL_law := List.mem_append_left _ (List.mem_append_left _ (List.mem_append_left _ (List.mem_append_left _ (List.mem_append_left _ (List.mem_append_left _ (List.mem_append_left _ (List.mem_append_left _ (List.mem_append_left _ (List.mem_append_left _ (List.mem_append_left _ (List.mem_append_left _ (List.mem_append_left _ (List.mem_append_right _ (List.mem_append_right _ (List.mem_append_right _ (List.mem_append_right _ (List.mem_append_right _ (List.mem_append_right _ (List.mem_append_right _ (List.mem_append_right _ (List.mem_append_right _ (List.mem_append_right _ (List.mem_append_right _ (List.mem_append_right _ (List.mem_append_right _ (List.mem_append_right _ (List.mem_append_right _ (List.mem_append_right _ (List.mem_append_right _ (List.mem_append_right _ (List.mem_append_left _ h)))))))))))))))))))))))))))))))
theorem in_r20 {w : Cond} (h : w ∈ wsL_law_r20) : w ∈ wsL_law := List.mem_append_left _ (List.mem_append_left _ (List.mem_append_left _ (List.mem_append_left _ (List.mem_append_left _ (List.mem_append_left _ (List.mem_append_left _ (List.mem_append_left _ (List.mem_append_left _ (List.mem_append_left _ (List.mem_append_left _ (List.mem_append_left _ (List.mem_append_left _ (List.mem_append_right _ (List.mem_append_right _ (List.mem_append_right _ (List.mem_append_right _ (List.mem_append_right _ (List.mem_append_right _ (List.mem_append_right _ (List.mem_append_right _ (List.mem_append_right _ (List.mem_append_right _ (List.mem_append_right _ (List.mem_append_right _ (List.mem_append_right _ (List.mem_append_right _ (List.mem_append_right _ (List.mem_append_right _ (List.mem_append_right _ (List.mem_append_right _ (List.mem_append_right _ (List.mem_append_left _ h))))))))))))))))))))))))))))))))
theorem in_r21 {w : Cond} (h : w ∈ wsL_law_r21) : w ∈ wsL_law := List.mem_append_left _ (List.mem_append_left _ (List.mem_append_left _ (List.mem_append_left _ (List.mem_append_left _ (List.mem_append_left _ (List.mem_append_left _ (List.mem_append_left _ (List.mem_append_left _ (List.mem_append_left _ (List.mem_append_left _ (List.mem_append_left _ (List.mem_append_left _ (List.mem_append_right _ (List.mem_append_right _ (List.mem_append_right _ (List.mem_append_right _ (List.mem_append_right _ (List.mem_append_right _ (List.mem_append_right _ (List.mem_append_right _ (List.mem_append_right _ (List.mem_append_right _ (List.mem_append_right _ (List.mem_append_right _ (List.mem_append_right _ (List.mem_append_right _ (List.mem_append_right _ (List.mem_append_right _ (List.mem_append_right _ (List.mem_append_right _ (List.mem_append_right _ (List.mem_append_right _ (List.mem_append_left _ h)))))))))))))))))))))))))))))))))
theorem in_r22 {w : Cond} (h : w ∈ wsL_law_r22) : w ∈ wsL_law := List.mem_append_left _ (List.mem_append_left _ (List.mem_append_left _ (List.mem_append_left _ (List.mem_append_left _ (List.mem_append_left _ (List.mem_append_left _ (List.mem_append_left _ (List.mem_append_left _ (List.mem_append_left _ (List.mem_append_left _ (List.mem_append_left _ (List.mem_append_left _ (List.mem_append_right _ (List.mem_append_right _ (List.mem_append_right _ (List.mem_append_right _ (List.mem_append_right _ (List.mem_append_right _ (List.mem_append_right _ (List.mem_append_right _ (List.mem_append_right _ (List.mem_append_right _ (List.mem_append_right _ (List.mem_append_right _ (List.mem_append_right _ (List.mem_append_right _ (List.mem_append_right _ (List.mem_append_right _ (List.mem_append_right _ (List.mem_append_right _ (List.mem_append_right _ (List.mem_append_right _ (List.mem_append_right _ (List.mem_append_left _ h))))))))))))))))))))))))))))))))))
theorem in_r23 {w : Cond} (h : w ∈ wsL_law_r23) : w ∈ wsL_law := List.mem_append_left _ (List.mem_append_left _ (List.mem_append_left _ (List.mem_append_left _ (List.mem_append_left _ (List.mem_append_left _ (List.mem_append_left _ (List.mem_append_left _ (List.mem_append_left _ (List.mem_append_left _ (List.mem_append_left _ (List.mem_append_left _ (List.mem_append_left _ (List.mem_append_right _ (List.mem_append_right _ (List.mem_append_right _ (List.mem_append_right _ (List.mem_append_right _ (List.mem_append_right _ (List.mem_append_right _ (List.mem_append_right _ (List.mem_append_right _ (List.mem_append_right _ (List.mem_append_right _ (List.mem_append_right _ (List.mem_append_right _ (List.mem_append_right _ (List.mem_append_right _ (List.mem_append_right _ (List.mem_append_right _ (List.mem_append_right _ (List.mem_append_right _ (List.mem_append_right _ (List.mem_append_right _ (List.mem_append_right _ (List.mem_append_left _ h)))))))))))))))))))))))))))))))))))
theorem in_r24 {w : Cond} (h : w ∈ wsL_law_r24) : w ∈ wsL_law := List.mem_append_left _ (List.mem_append_left _ (List.mem_append_left _ (List.mem_append_left _ (List.mem_append_left _ (List.mem_append_left _ (List.mem_append_left _ (List.mem_append_left _ (List.mem_append_left _ (List.mem_append_left _ (List.mem_append_left _ (List.mem_append_left _ (List.mem_append_left _ (List.mem_append_right _ (List.mem_append_right _ (List.mem_append_right _ (List.mem_append_right _ (List.mem_append_right _ (List.mem_append_right _ (List.mem_append_right _ (List.mem_append_right _ (List.mem_append_right _ (List.mem_append_right _ (List.mem_append_right _ (List.mem_append_right _ (List.mem_append_right _ (List.mem_append_right _ (List.mem_append_right _ (List.mem_append_right _ (List.mem_append_right _ (List.mem_append_right _ (List.mem_append_right _ (List.mem_append_right _ (List.mem_append_right _ (List.mem_append_right _ (List.mem_append_right _ (List.mem_append_left _ h))))))))))))))))))))))))))))))))))))
theorem in_r25 {w : Cond} (h : w ∈ wsL_law_r25) : w ∈ wsL_law := List.mem_append_left _ (List.mem_append_left _ (List.mem_append_left _ (List.mem_append_left _ (List.mem_append_left _ (List.mem_append_left _ (List.mem_append_left _ (List.mem_append_left _ (List.mem_append_left _ (List.mem_append_left _ (List.mem_append_left _ (List.mem_append_left _ (List.mem_append_left _ (List.mem_append_right _ (List.mem_append_right _ (List.mem_append_right _ (List.mem_append_right _ (List.mem_append_right _ (List.mem_append_right _ (List.mem_append_right _ (List.mem_append_right _ (List.mem_append_right _ (List.mem_append_right _ (List.mem_append_right _ (List.mem_append_right _ (List.mem_append_right _ (List.mem_append_right _ (List.mem_append_right _ (List.mem_append_right _ (List.mem_append_right _ (List.mem_append_right _ (List.mem_append_right _ (List.mem_append_right _ (List.mem_append_right _ (List.mem_append_right _ (List.mem_append_right _ (List.mem_append_right _ (List.mem_append_left _ h)))))))))))))))))))))))))))))))))))))
theorem in_r26 {w : Cond} (h : w ∈ wsL_law_r26) : w ∈ wsL_law := List.mem_append_left _ (List.mem_append_left _ (List.mem_append_left _ (List.mem_append_left _ (List.mem_append_left _ (List.mem_append_left _ (List.mem_append_left _ (List.mem_append_left _ (List.mem_append_left _ (List.mem_append_left _ (List.mem_append_left _ (List.mem_append_left _ (List.mem_append_left _ (List.mem_append_right _ (List.mem_append_right _ (List.mem_append_right _ (List.mem_append_right _ (List.mem_append_right _ (List.mem_append_right _ (List.mem_append_right _ (List.mem_append_right _ (List.mem_append_right _ (List.mem_append_right _ (List.mem_append_right _ (List.mem_append_right _ (List.mem_append_right _ (List.mem_append_right _ (List.mem_append_right _ (List.mem_append_right _ (List.mem_append_right _ (List.mem_append_right _ (List.mem_append_right _ (List.mem_append_right _ (List.mem_append_right _ (List.mem_append_right _ (List.mem_append_right _ (List.mem_append_right _ (List.mem_append_right _ (List.mem_append_left _ h))))))))))))))))))))))))))))))))))))))
theorem in_r27 {w : Cond} (h : w ∈ wsL_law_r27) : w ∈ wsL_law := List.mem_append_left _ (List.mem_append_left _ (List.mem_append_left _ (List.mem_append_left _ (List.mem_append_left _ (List.mem_append_left _ (List.mem_append_left _ (List.mem_append_left _ (List.mem_append_left _ (List.mem_append_left _ (List.mem_append_left _ (List.mem_append_left _ (List.mem_append_left _ (List.mem_append_right _ (List.mem_append_right _ (List.mem_append_right _ (List.mem_append_right _ (List.mem_append_right _ (List.mem_append_right _ (List.mem_append_right _ (List.mem_append_right _ (List.mem_append_right _ (List.mem_append_right _ (List.mem_append_right _ (List.mem_append_right _ (List.mem_append_right _ (List.mem_append_right _ (List.mem_append_right _ (List.mem_append_right _ (List.mem_append_right _ (List.mem_append_right _ (List.mem_append_right _ (List.mem_append_right _ (List.mem_append_right _ (List.mem_append_right _ (List.mem_append_right _ (List.mem_append_right _ (List.mem_append_right _ (List.mem_append_right _ (List.mem_append_left _ h)))))))))))))))))))))))))))))))))))))))
theorem in_r28 {w : Cond} (h : w ∈ wsL_law_r28) : w ∈ wsL_law := List.mem_append_left _ (List.mem_append_left _ (List.mem_append_left _ (List.mem_append_left _ (List.mem_append_left _ (List.mem_append_left _ (List.mem_append_left _ (List.mem_append_left _ (List.mem_append_left _ (List.mem_append_left _ (List.mem_append_left _ (List.mem_append_left _ (List.mem_append_left _ (List.mem_append_right _ (List.mem_append_right _ (List.mem_append_right _ (List.mem_append_right _ (List.mem_append_right _ (List.mem_append_right _ (List.mem_append_right _ (List.mem_append_right _ (List.mem_append_right _ (List.mem_append_right _ (List.mem_append_right _ (List.mem_append_right _ (List.mem_append_right _ (List.mem_append_right _ (List.mem_append_right _ (List.mem_append_right _ (List.mem_append_right _ (List.mem_append_right _ (List.mem_append_right _ (List.mem_append_right _ (List.mem_append_right _ (List.mem_append_right _ (List.mem_append_right _ (List.mem_append_right _ (List.mem_append_right _ (List.mem_append_right _ (List.mem_append_right _ (List.mem_append_left _ h))))))))))))))))))))))))))))))))))))))))
theorem in_r29 {w : Cond} (h : w ∈ wsL_law_r29) : w ∈ wsL_law := List.mem_append_left _ (List.mem_append_left _ (List.mem_append_left _ (List.mem_append_left _ (List.mem_append_left _ (List.mem_append_left _ (List.mem_append_left _ (List.mem_append_left _ (List.mem_append_left _ (List.mem_append_left _ (List.mem_append_left _ (List.mem_append_left _ (List.mem_append_left _ (List.mem_append_right _ (List.mem_append_right _ (List.mem_append_right _ (List.mem_append_right _ (List.mem_append_right _ (List.mem_append_right _ (List.mem_append_right _ (List.mem_append_right _ (List.mem_append_right _ (List.mem_append_right _ (List.mem_append_right _ (List.mem_append_right _ (List.mem_append_right _ (List.mem_append_right _ (List.mem_append_right _ (List.mem_append_right _ (List.mem_append_right _ (List.mem_append_right _ (List.mem_append_right _ (List.mem_append_right _ (List.mem_append_right _ (List.mem_append_right _ (List.mem_append_right _ (List.mem_append_right _ (List.mem_append_right _ (List.mem_append_right _ (List.mem_append_right _ (List.mem_append_right _ (List.mem_append_left _ h)))))))))))))))))))))))))))))))))))))))))
theorem in_r30 {w : Cond} (h : w ∈ wsL_law_r30) : w ∈ wsL_law := List.mem_append_left _ (List.mem_append_left _ (List.mem_append_left _ (List.mem_append_left _ (List.mem_append_left _ (List.mem_append_left _ (List.mem_append_left _ (List.mem_append_left _ (List.mem_append_left _ (List.mem_append_left _ (List.mem_append_left _ (List.mem_append_left _ (List.mem_append_left _ (List.mem_append_right _ (List.mem_append_right _ (List.mem_append_right _ (List.mem_append_right _ (List.mem_append_right _ (List.mem_append_right _ (List.mem_append_right _ (List.mem_append_right _ (List.mem_append_right _ (List.mem_append_right _ (List.mem_append_right _ (List.mem_append_right _ (List.mem_append_right _ (List.mem_append_right _ (List.mem_append_right _ (List.mem_append_right _ (List.mem_append_right _ (List.mem_append_right _ (List.mem_append_right _ (List.mem_append_right _ (List.mem_append_right _ (List.mem_append_right _ (List.mem_append_right _ (List.mem_append_right _ (List.mem_append_right _ (List.mem_append_right _ (List.mem_append_right _ (List.mem_append_right _ (List.mem_append_right _ (List.mem_append_left _ h))))))))))))))))))))))))))))))))))))))))))
theorem in_r31 {w : Cond} (h : w ∈ wsL_law_r31) : w ∈ wsL_law := List.mem_append_left _ (List.mem_append_left _ (List.mem_append_left _ (List.mem_append_left _ (List.mem_append_left _ (List.mem_append_left _ (List.mem_append_left _ (List.mem_append_left _ (List.mem_append_left _ (List.mem_append_left _ (List.mem_append_left _ (List.mem_append_left _ (List.mem_append_left _ (List.mem_append_right _ (List.mem_append_right _ (List.mem_append_right _ (List.mem_append_right _ (List.mem_append_right _ (List.mem_append_right _ (List.mem_append_right _ (List.mem_append_right _ (List.mem_append_right _ (List.mem_append_right _ (List.mem_append_right _ (List.mem_append_right _ (List.mem_append_right _ (List.mem_append_right _ (List.mem_append_right _ (List.mem_append_right _ (List.mem_append_right _ (List.mem_append_right _ (List.mem_append_right _ (List.mem_append_right _ (List.mem_append_right _ (List.mem_append_right _ (List.mem_append_right _ (List.mem_append_right _ (List.mem_append_right _ (List.mem_append_right _ (List.mem_append_right _ (List.mem_append_right _ (List.mem_append_right _ (List.mem_append_right _ (List.mem_append_left _ h)))))))))))))))))))))))))))))))))))))))))))
theorem in_r32 {w : Cond} (h : w ∈ wsL_law_r32) : w ∈ wsL_law := List.mem_append_left _ (List.mem_append_left _ (List.mem_append_left _ (List.mem_append_left _ (List.mem_append_left _ (List.mem_append_left _ (List.mem_append_left _ (List.mem_append_left _ (List.mem_append_left _ (List.mem_append_left _ (List.mem_append_left _ (List.mem_append_left _ (List.mem_append_left _ (List.mem_append_right _ (List.mem_append_right _ (List.mem_append_right _ (List.mem_append_right _ (List.mem_append_right _ (List.mem_append_right _ (List.mem_append_right _ (List.mem_append_right _ (List.mem_append_right _ (List.mem_append_right _ (List.mem_append_right _ (List.mem_append_right _ (List.mem_append_right _ (List.mem_append_right _ (List.mem_append_right _ (List.mem_append_right _ (List.mem_append_right _ (List.mem_append_right _ (List.mem_append_right _ (List.mem_append_right _ (List.mem_append_right _ (List.mem_append_right _ (List.mem_append_right _ (List.mem_append_right _ (List.mem_append_right _ (List.mem_append_right _ (List.mem_append_right _ (List.mem_append_right _ (List.mem_append_right _ (List.mem_append_right _ (List.mem_append_right _ (List.mem_append_left _ h))))))))))))))))))))))))))))))))))))))))))))
theorem in_r33 {w : Cond} (h : w ∈ wsL_law_r33) : w ∈ wsL_law := List.mem_append_left _ (List.mem_append_left _ (List.mem_append_left _ (List.mem_append_left _ (List.mem_append_left _ (List.mem_append_left _ (List.mem_append_left _ (List.mem_append_left _ (List.mem_append_left _ (List.mem_append_left _ (List.mem_append_left _ (List.mem_append_left _ (List.mem_append_left _ (List.mem_append_right _ (List.mem_append_right _ (List.mem_append_right _ (List.mem_append_right _ (List.mem_append_right _ (List.mem_append_right _ (List.mem_append_right _ (List.mem_append_right _ (List.mem_append_right _ (List.mem_append_right _ (List.mem_append_right _ (List.mem_append_right _ (List.mem_append_right _ (List.mem_append_right _ (List.mem_append_right _ (List.mem_append_right _ (List.mem_append_right _ (List.mem_append_right _ (List.mem_append_right _ (List.mem_append_right _ (List.mem_append_right _ (List.mem_append_right _ (List.mem_append_right _ (List.mem_append_right _ (List.mem_append_right _ (List.mem_append_right _ (List.mem_append_right _ (List.mem_append_right _ (List.mem_append_right _ (List.mem_append_right _ (List.mem_append_right _ (List.mem_append_right _ (List.mem_append_left _ h)))))))))))))))))))))))))))))))))))))))))))))
theorem in_r34 {w : Cond} (h : w ∈ wsL_law_r34) : w ∈ wsL_law := List.mem_append_left _ (List.mem_append_left _ (List.mem_append_left _ (List.mem_append_left _ (List.mem_append_left _ (List.mem_append_left _ (List.mem_append_left _ (List.mem_append_left _ (List.mem_append_left _ (List.mem_append_left _ (List.mem_append_left _ (List.mem_append_left _ (List.mem_append_left _ (List.mem_append_right _ (List.mem_append_right _ (List.mem_append_right _ (List.mem_append_right _ (List.mem_append_right _ (List.mem_append_right _ (List.mem_append_right _ (List.mem_append_right _ (List.mem_append_right _ (List.mem_append_right _ (List.mem_append_right _ (List.mem_append_right _ (List.mem_append_right _ (List.mem_append_right _ (List.mem_append_right _ (List.mem_append_right _ (List.mem_append_right _ (List.mem_append_right _ (List.mem_append_right _ (List.mem_append_right _ (List.mem_append_right _ (List.mem_append_right _ (List.mem_append_right _ (List.mem_append_right _ (List.mem_append_right _ (List.mem_append_right _ (List.mem_append_right _ (List.mem_append_right _ (List.mem_append_right _ (List.mem_append_right _ (List.mem_append_right _ (List.mem_append_right _ (List.mem_append_right _ (h))))))))))))))))))))))))))))))))))))))))))))))
set_option maxRecDepth 20000 in
theorem wsL_good : wsL_law.all goodWord = true := by decide +kernel
end
section
theorem dX0_init_0 : decode cX0_init 0 = .ok (.aload_n 0, 1) := by decide +kernel
theorem dX0_init_1 : decode cX0_init 1 = .ok (.invokespecial 3, 3) := by decide +kernel
theorem dX0_init_4 : decode cX0_init 4 = .ok (.aload_n 0, 1) := by decide +kernel
theorem dX0_init_5 : decode cX0_init 5 = .ok (.bipush 8, 2) := by decide +kernel
theorem dX0_init_7 : decode cX0_init 7 = .ok (.newarray .int, 2) := by decide +kernel
theorem dX0_init_9 : decode cX0_init 9 = .ok (.putfield 9, 3) := by decide +kernel
theorem dX0_init_12 : decode cX0_init 12 = .ok (.aload_n 0, 1) := by decide +kernel
theorem dX0_init_13 : decode cX0_init 13 = .ok (.bipush 8, 2) := by decide +kernel
theorem dX0_init_15 : decode cX0_init 15 = .ok (.newarray .int, 2) := by decide +kernel
theorem dX0_init_17 : decode cX0_init 17 = .ok (.putfield 15, 3) := by decide +kernel
theorem dX0_init_20 : decode cX0_init 20 = .ok (.aload_n 0, 1) := by decide +kernel
theorem dX0_init_21 : decode cX0_init 21 = .ok (.iconst 0, 1) := by decide +kernel
theorem dX0_init_22 : decode cX0_init 22 = .ok (.putfield 18, 3) := by decide +kernel
theorem dX0_init_25 : decode cX0_init 25 = .ok (.return_, 1) := by decide +kernel
theorem dX0_add_0 : decode cX0_add 0 = .ok (.aload_n 0, 1) := by decide +kernel
theorem dX0_add_1 : decode cX0_add 1 = .ok (.getfield 18, 3) := by decide +kernel
theorem dX0_add_4 : decode cX0_add 4 = .ok (.bipush 8, 2) := by decide +kernel
theorem dX0_add_6 : decode cX0_add 6 = .ok (.if_icmp .ge 33, 3) := by decide +kernel
theorem dX0_add_9 : decode cX0_add 9 = .ok (.aload_n 0, 1) := by decide +kernel
theorem dX0_add_10 : decode cX0_add 10 = .ok (.getfield 9, 3) := by decide +kernel
theorem dX0_add_13 : decode cX0_add 13 = .ok (.aload_n 0, 1) := by decide +kernel
theorem dX0_add_14 : decode cX0_add 14 = .ok (.getfield 18, 3) := by decide +kernel
theorem dX0_add_17 : decode cX0_add 17 = .ok (.iload_n 1, 1) := by decide +kernel
theorem dX0_add_18 : decode cX0_add 18 = .ok (.iastore, 1) := by decide +kernel
theorem dX0_add_19 : decode cX0_add 19 = .ok (.aload_n 0, 1) := by decide +kernel
theorem dX0_add_20 : decode cX0_add 20 = .ok (.getfield 15, 3) := by decide +kernel
theorem dX0_add_23 : decode cX0_add 23 = .ok (.aload_n 0, 1) := by decide +kernel
theorem dX0_add_24 : decode cX0_add 24 = .ok (.getfield 18, 3) := by decide +kernel
theorem dX0_add_27 : decode cX0_add 27 = .ok (.iload_n 2, 1) := by decide +kernel
theorem dX0_add_28 : decode cX0_add 28 = .ok (.iastore, 1) := by decide +kernel
theorem dX0_add_29 : decode cX0_add 29 = .ok (.aload_n 0, 1) := by decide +kernel
theorem dX0_add_30 : decode cX0_add 30 = .ok (.dup, 1) := by decide +kernel
theorem dX0_add_31 : decode cX0_add 31 = .ok (.getfield 18, 3) := by decide +kernel
theorem dX0_add_34 : decode cX0_add 34 = .ok (.iconst 1, 1) := by decide +kernel
theorem dX0_add_35 : decode cX0_add 35 = .ok (.iadd, 1) := by decide +kernel
theorem dX0_add_36 : decode cX0_add 36 = .ok (.putfield 18, 3) := by decide +kernel
theorem dX0_add_39 : decode cX0_add 39 = .ok (.return_, 1) := by decide +kernel
theorem dX1_init_0 : decode cX1_init 0 = .ok (.aload_n 0, 1) := by decide +kernel
theorem dX1_init_1 : decode cX1_init 1 = .ok (.invokespecial 3, 3) := by decide +kernel
theorem dX1_init_4 : decode cX1_init 4 = .ok (.aload_n 0, 1) := by decide +kernel
theorem dX1_init_5 : decode cX1_init 5 = .ok (.sipush 169, 3) := by decide +kernel
theorem dX1_init_8 : decode cX1_init 8 = .ok (.newarray .int, 2) := by decide +kernel
theorem dX1_init_10 : decode cX1_init 10 = .ok (.putfield 11, 3) := by decide +kernel
theorem dX1_init_13 : decode cX1_init 13 = .ok (.aload_n 0, 1) := by decide +kernel
theorem dX1_init_14 : decode cX1_init 14 = .ok (.iconst 0, 1) := by decide +kernel
theorem dX1_init_15 : decode cX1_init 15 = .ok (.putfield 15, 3) := by decide +kernel
theorem dX1_init_18 : decode cX1_init 18 = .ok (.aload_n 0, 1) := by decide +kernel
theorem dX1_init_19 : decode cX1_init 19 = .ok (.iconst 0, 1) := by decide +kernel
theorem dX1_init_20 : decode cX1_init 20 = .ok (.putfield 19, 3) := by decide +kernel
theorem dX1_init_23 : decode cX1_init 23 = .ok (.return_, 1) := by decide +kernel
theorem dX1_workOut_0 : decode cX1_workOut 0 = .ok (.aload_n 0, 1) := by decide +kernel
theorem dX1_workOut_1 : decode cX1_workOut 1 = .ok (.aload_n 1, 1) := by decide +kernel
theorem dX1_workOut_2 : decode cX1_workOut 2 = .ok (.invokevirtual 22, 3) := by decide +kernel
theorem dX1_workOut_5 : decode cX1_workOut 5 = .ok (.iconst 0, 1) := by decide +kernel
theorem dX1_workOut_6 : decode cX1_workOut 6 = .ok (.aload_n 1, 1) := by decide +kernel
theorem dX1_workOut_7 : decode cX1_workOut 7 = .ok (.getfield 26, 3) := by decide +kernel
theorem dX1_workOut_10 : decode cX1_workOut 10 = .ok (.iconst 2, 1) := by decide +kernel
theorem dX1_workOut_11 : decode cX1_workOut 11 = .ok (.invokestatic 31, 3) := by decide +kernel
theorem dX1_workOut_14 : decode cX1_workOut 14 = .ok (.ifCond .eq 10, 3) := by decide +kernel
theorem dX1_workOut_17 : decode cX1_workOut 17 = .ok (.aload_n 1, 1) := by decide +kernel
theorem dX1_workOut_18 : decode cX1_workOut 18 = .ok (.getfield 26, 3) := by decide +kernel
theorem dX1_workOut_21 : decode cX1_workOut 21 = .ok (.goto 4, 3) := by decide +kernel
theorem dX1_workOut_24 : decode cX1_workOut 24 = .ok (.iconst 0, 1) := by decide +kernel
theorem dX1_workOut_25 : decode cX1_workOut 25 = .ok (.istore_n 2, 1) := by decide +kernel
theorem dX1_workOut_26 : decode cX1_workOut 26 = .ok (.getstatic 35, 3) := by decide +kernel
theorem dX1_workOut_29 : decode cX1_workOut 29 = .ok (.iload_n 2, 1) := by decide +kernel
theorem dX1_workOut_30 : decode cX1_workOut 30 = .ok (.iaload, 1) := by decide +kernel
theorem dX1_workOut_31 : decode cX1_workOut 31 = .ok (.istore_n 3, 1) := by decide +kernel
theorem dX1_workOut_32 : decode cX1_workOut 32 = .ok (.getstatic 38, 3) := by decide +kernel
theorem dX1_workOut_35 : decode cX1_workOut 35 = .ok (.iload_n 2, 1) := by decide +kernel
theorem dX1_workOut_36 : decode cX1_workOut 36 = .ok (.iaload, 1) := by decide +kernel
theorem dX1_workOut_37 : decode cX1_workOut 37 = .ok (.istore 4, 2) := by decide +kernel
theorem dX1_workOut_39 : decode cX1_workOut 39 = .ok (.iconst 0, 1) := by decide +kernel
theorem dX1_workOut_40 : decode cX1_workOut 40 = .ok (.istore 5, 2) := by decide +kernel
theorem dX1_workOut_42 : decode cX1_workOut 42 = .ok (.iload 5, 2) := by decide +kernel
theorem dX1_workOut_44 : decode cX1_workOut 44 = .ok (.aload_n 0, 1) := by decide +kernel
theorem dX1_workOut_45 : decode cX1_workOut 45 = .ok (.getfield 19, 3) := by decide +kernel
theorem dX1_workOut_48 : decode cX1_workOut 48 = .ok (.if_icmp .ge 42, 3) := by decide +kernel
theorem dX1_workOut_51 : decode cX1_workOut 51 = .ok (.iconst 0, 1) := by decide +kernel
theorem dX1_workOut_52 : decode cX1_workOut 52 = .ok (.istore 6, 2) := by decide +kernel
theorem dX1_workOut_54 : decode cX1_workOut 54 = .ok (.iload 6, 2) := by decide +kernel
theorem dX1_workOut_56 : decode cX1_workOut 56 = .ok (.aload_n 0, 1) := by decide +kernel
theorem dX1_workOut_57 : decode cX1_workOut 57 = .ok (.getfield 15, 3) := by decide +kernel
theorem dX1_workOut_60 : decode cX1_workOut 60 = .ok (.if_icmp .ge 24, 3) := by decide +kernel
theorem dX1_workOut_63 : decode cX1_workOut 63 = .ok (.aload_n 0, 1) := by decide +kernel
theorem dX1_workOut_64 : decode cX1_workOut 64 = .ok (.iload 6, 2) := by decide +kernel
theorem dX1_workOut_66 : decode cX1_workOut 66 = .ok (.iload 5, 2) := by decide +kernel
theorem dX1_workOut_68 : decode cX1_workOut 68 = .ok (.invokestatic 41, 3) := by decide +kernel
theorem dX1_workOut_71 : decode cX1_workOut 71 = .ok (.iconst (-1), 1) := by decide +kernel
theorem dX1_workOut_72 : decode cX1_workOut 72 = .ok (.iload_n 3, 1) := by decide +kernel
theorem dX1_workOut_73 : decode cX1_workOut 73 = .ok (.iload 4, 2) := by decide +kernel
theorem dX1_workOut_75 : decode cX1_workOut 75 = .ok (.invokevirtual 45, 3) := by decide +kernel
theorem dX1_workOut_78 : decode cX1_workOut 78 = .ok (.iinc 6 1, 3) := by decide +kernel
theorem dX1_workOut_81 : decode cX1_workOut 81 = .ok (.goto (-27), 3) := by decide +kernel
theorem dX1_workOut_84 : decode cX1_workOut 84 = .ok (.iinc 5 1, 3) := by decide +kernel
theorem dX1_workOut_87 : decode cX1_workOut 87 = .ok (.goto (-45), 3) := by decide +kernel
theorem dX1_workOut_90 : decode cX1_workOut 90 = .ok (.aload_n 0, 1) := by decide +kernel
theorem dX1_workOut_91 : decode cX1_workOut 91 = .ok (.getfield 19, 3) := by decide +kernel
theorem dX1_workOut_94 : decode cX1_workOut 94 = .ok (.iconst 1, 1) := by decide +kernel
theorem dX1_workOut_95 : decode cX1_workOut 95 = .ok (.isub, 1) := by decide +kernel
theorem dX1_workOut_96 : decode cX1_workOut 96 = .ok (.istore 5, 2) := by decide +kernel
theorem dX1_workOut_98 : decode cX1_workOut 98 = .ok (.iload 5, 2) := by decide +kernel
theorem dX1_workOut_100 : decode cX1_workOut 100 = .ok (.ifCond .lt 43, 3) := by decide +kernel
theorem dX1_workOut_103 : decode cX1_workOut 103 = .ok (.aload_n 0, 1) := by decide +kernel
theorem dX1_workOut_104 : decode cX1_workOut 104 = .ok (.getfield 15, 3) := by decide +kernel
theorem dX1_workOut_107 : decode cX1_workOut 107 = .ok (.iconst 1, 1) := by decide +kernel
theorem dX1_workOut_108 : decode cX1_workOut 108 = .ok (.isub, 1) := by decide +kernel
theorem dX1_workOut_109 : decode cX1_workOut 109 = .ok (.istore 6, 2) := by decide +kernel
theorem dX1_workOut_111 : decode cX1_workOut 111 = .ok (.iload 6, 2) := by decide +kernel
theorem dX1_workOut_113 : decode cX1_workOut 113 = .ok (.ifCond .lt 24, 3) := by decide +kernel
theorem dX1_workOut_116 : decode cX1_workOut 116 = .ok (.aload_n 0, 1) := by decide +kernel
theorem dX1_workOut_117 : decode cX1_workOut 117 = .ok (.iload 6, 2) := by decide +kernel
theorem dX1_workOut_119 : decode cX1_workOut 119 = .ok (.iload 5, 2) := by decide +kernel
theorem dX1_workOut_121 : decode cX1_workOut 121 = .ok (.invokestatic 41, 3) := by decide +kernel
theorem dX1_workOut_124 : decode cX1_workOut 124 = .ok (.iconst 1, 1) := by decide +kernel
theorem dX1_workOut_125 : decode cX1_workOut 125 = .ok (.iload_n 3, 1) := by decide +kernel
theorem dX1_workOut_126 : decode cX1_workOut 126 = .ok (.iload 4, 2) := by decide +kernel
theorem dX1_workOut_128 : decode cX1_workOut 128 = .ok (.invokevirtual 45, 3) := by decide +kernel
theorem dX1_workOut_131 : decode cX1_workOut 131 = .ok (.iinc 6 (-1), 3) := by decide +kernel
theorem dX1_workOut_134 : decode cX1_workOut 134 = .ok (.goto (-23), 3) := by decide +kernel
theorem dX1_workOut_137 : decode cX1_workOut 137 = .ok (.iinc 5 (-1), 3) := by decide +kernel
theorem dX1_workOut_140 : decode cX1_workOut 140 = .ok (.goto (-42), 3) := by decide +kernel
theorem dX1_workOut_143 : decode cX1_workOut 143 = .ok (.return_, 1) := by decide +kernel
theorem dX1_start_0 : decode cX1_start 0 = .ok (.aload_n 0, 1) := by decide +kernel
theorem dX1_start_1 : decode cX1_start 1 = .ok (.aload_n 1, 1) := by decide +kernel
theorem dX1_start_2 : decode cX1_start 2 = .ok (.getfield 49, 3) := by decide +kernel
theorem dX1_start_5 : decode cX1_start 5 = .ok (.putfield 15, 3) := by decide +kernel
theorem dX1_start_8 : decode cX1_start 8 = .ok (.aload_n 0, 1) := by decide +kernel
theorem dX1_start_9 : decode cX1_start 9 = .ok (.aload_n 1, 1) := by decide +kernel
theorem dX1_start_10 : decode cX1_start 10 = .ok (.getfield 50, 3) := by decide +kernel
theorem dX1_start_13 : decode cX1_start 13 = .ok (.putfield 19, 3) := by decide +kernel
theorem dX1_start_16 : decode cX1_start 16 = .ok (.iconst 0, 1) := by decide +kernel
theorem dX1_start_17 : decode cX1_start 17 = .ok (.istore_n 2, 1) := by decide +kernel
theorem dX1_start_18 : decode cX1_start 18 = .ok (.iload_n 2, 1) := by decide +kernel
theorem dX1_start_19 : decode cX1_start 19 = .ok (.aload_n 0, 1) := by decide +kernel
theorem dX1_start_20 : decode cX1_start 20 = .ok (.getfield 11, 3) := by decide +kernel
theorem dX1_start_23 : decode cX1_start 23 = .ok (.arraylength, 1) := by decide +kernel
theorem dX1_start_24 : decode cX1_start 24 = .ok (.if_icmp .ge 19, 3) := by decide +kernel
theorem dX1_start_27 : decode cX1_start 27 = .ok (.aload_n 0, 1) := by decide +kernel
theorem dX1_start_28 : decode cX1_start 28 = .ok (.getfield 11, 3) := by decide +kernel
theorem dX1_start_31 : decode cX1_start 31 = .ok (.iload_n 2, 1) := by decide +kernel
theorem dX1_start_32 : decode cX1_start 32 = .ok (.aload_n 1, 1) := by decide +kernel
theorem dX1_start_33 : decode cX1_start 33 = .ok (.getfield 51, 3) := by decide +kernel
theorem dX1_start_36 : decode cX1_start 36 = .ok (.iastore, 1) := by decide +kernel
theorem dX1_start_37 : decode cX1_start 37 = .ok (.iinc 2 1, 3) := by decide +kernel
theorem dX1_start_40 : decode cX1_start 40 = .ok (.goto (-22), 3) := by decide +kernel
theorem dX1_start_43 : decode cX1_start 43 = .ok (.iconst 0, 1) := by decide +kernel
theorem dX1_start_44 : decode cX1_start 44 = .ok (.istore_n 2, 1) := by decide +kernel
theorem dX1_start_45 : decode cX1_start 45 = .ok (.iload_n 2, 1) := by decide +kernel
theorem dX1_start_46 : decode cX1_start 46 = .ok (.aload_n 0, 1) := by decide +kernel
theorem dX1_start_47 : decode cX1_start 47 = .ok (.getfield 19, 3) := by decide +kernel
theorem dX1_start_50 : decode cX1_start 50 = .ok (.if_icmp .ge 46, 3) := by decide +kernel
theorem dX1_start_53 : decode cX1_start 53 = .ok (.iconst 0, 1) := by decide +kernel
theorem dX1_start_54 : decode cX1_start 54 = .ok (.istore_n 3, 1) := by decide +kernel
theorem dX1_start_55 : decode cX1_start 55 = .ok (.iload_n 3, 1) := by decide +kernel
theorem dX1_start_56 : decode cX1_start 56 = .ok (.aload_n 0, 1) := by decide +kernel
theorem dX1_start_57 : decode cX1_start 57 = .ok (.getfield 15, 3) := by decide +kernel
theorem dX1_start_60 : decode cX1_start 60 = .ok (.if_icmp .ge 30, 3) := by decide +kernel
theorem dX1_start_63 : decode cX1_start 63 = .ok (.aload_n 1, 1) := by decide +kernel
theorem dX1_start_64 : decode cX1_start 64 = .ok (.iload_n 3, 1) := by decide +kernel
theorem dX1_start_65 : decode cX1_start 65 = .ok (.iload_n 2, 1) := by decide +kernel
theorem dX1_start_66 : decode cX1_start 66 = .ok (.invokevirtual 54, 3) := by decide +kernel
theorem dX1_start_69 : decode cX1_start 69 = .ok (.iconst 1, 1) := by decide +kernel
theorem dX1_start_70 : decode cX1_start 70 = .ok (.if_icmp .ne 14, 3) := by decide +kernel
theorem dX1_start_73 : decode cX1_start 73 = .ok (.aload_n 0, 1) := by decide +kernel
theorem dX1_start_74 : decode cX1_start 74 = .ok (.getfield 11, 3) := by decide +kernel
theorem dX1_start_77 : decode cX1_start 77 = .ok (.iload_n 3, 1) := by decide +kernel
theorem dX1_start_78 : decode cX1_start 78 = .ok (.iload_n 2, 1) := by decide +kernel
theorem dX1_start_79 : decode cX1_start 79 = .ok (.invokestatic 41, 3) := by decide +kernel
theorem dX1_start_82 : decode cX1_start 82 = .ok (.iconst 0, 1) := by decide +kernel
theorem dX1_start_83 : decode cX1_start 83 = .ok (.iastore, 1) := by decide +kernel
theorem dX1_start_84 : decode cX1_start 84 = .ok (.iinc 3 1, 3) := by decide +kernel
theorem dX1_start_87 : decode cX1_start 87 = .ok (.goto (-32), 3) := by decide +kernel
theorem dX1_start_90 : decode cX1_start 90 = .ok (.iinc 2 1, 3) := by decide +kernel
theorem dX1_start_93 : decode cX1_start 93 = .ok (.goto (-48), 3) := by decide +kernel
theorem dX1_start_96 : decode cX1_start 96 = .ok (.return_, 1) := by decide +kernel
theorem dX1_stepTo_0 : decode cX1_stepTo 0 = .ok (.iload_n 1, 1) := by decide +kernel
theorem dX1_stepTo_1 : decode cX1_stepTo 1 = .ok (.iload_n 2, 1) := by decide +kernel
theorem dX1_stepTo_2 : decode cX1_stepTo 2 = .ok (.bipush 13, 2) := by decide +kernel
theorem dX1_stepTo_4 : decode cX1_stepTo 4 = .ok (.imul, 1) := by decide +kernel
theorem dX1_stepTo_5 : decode cX1_stepTo 5 = .ok (.iadd, 1) := by decide +kernel
theorem dX1_stepTo_6 : decode cX1_stepTo 6 = .ok (.istore 5, 2) := by decide +kernel
theorem dX1_stepTo_8 : decode cX1_stepTo 8 = .ok (.aload_n 0, 1) := by decide +kernel
theorem dX1_stepTo_9 : decode cX1_stepTo 9 = .ok (.getfield 11, 3) := by decide +kernel
theorem dX1_stepTo_12 : decode cX1_stepTo 12 = .ok (.iload_n 1, 1) := by decide +kernel
theorem dX1_stepTo_13 : decode cX1_stepTo 13 = .ok (.iload_n 2, 1) := by decide +kernel
theorem dX1_stepTo_14 : decode cX1_stepTo 14 = .ok (.iadd, 1) := by decide +kernel
theorem dX1_stepTo_15 : decode cX1_stepTo 15 = .ok (.iaload, 1) := by decide +kernel
theorem dX1_stepTo_16 : decode cX1_stepTo 16 = .ok (.aload_n 0, 1) := by decide +kernel
theorem dX1_stepTo_17 : decode cX1_stepTo 17 = .ok (.getfield 11, 3) := by decide +kernel
theorem dX1_stepTo_20 : decode cX1_stepTo 20 = .ok (.iload 5, 2) := by decide +kernel
theorem dX1_stepTo_22 : decode cX1_stepTo 22 = .ok (.iaload, 1) := by decide +kernel
theorem dX1_stepTo_23 : decode cX1_stepTo 23 = .ok (.invokestatic 57, 3) := by decide +kernel
theorem dX1_stepTo_26 : decode cX1_stepTo 26 = .ok (.iload_n 3, 1) := by decide +kernel
theorem dX1_stepTo_27 : decode cX1_stepTo 27 = .ok (.iadd, 1) := by decide +kernel
theorem dX1_stepTo_28 : decode cX1_stepTo 28 = .ok (.istore 6, 2) := by decide +kernel
theorem dX1_stepTo_30 : decode cX1_stepTo 30 = .ok (.aload_n 0, 1) := by decide +kernel
theorem dX1_stepTo_31 : decode cX1_stepTo 31 = .ok (.getfield 11, 3) := by decide +kernel
theorem dX1_stepTo_34 : decode cX1_stepTo 34 = .ok (.iload 5, 2) := by decide +kernel
theorem dX1_stepTo_36 : decode cX1_stepTo 36 = .ok (.iconst 1, 1) := by decide +kernel
theorem dX1_stepTo_37 : decode cX1_stepTo 37 = .ok (.isub, 1) := by decide +kernel
theorem dX1_stepTo_38 : decode cX1_stepTo 38 = .ok (.iaload, 1) := by decide +kernel
theorem dX1_stepTo_39 : decode cX1_stepTo 39 = .ok (.aload_n 0, 1) := by decide +kernel
theorem dX1_stepTo_40 : decode cX1_stepTo 40 = .ok (.getfield 11, 3) := by decide +kernel
theorem dX1_stepTo_43 : decode cX1_stepTo 43 = .ok (.iload 5, 2) := by decide +kernel
theorem dX1_stepTo_45 : decode cX1_stepTo 45 = .ok (.iconst 1, 1) := by decide +kernel
theorem dX1_stepTo_46 : decode cX1_stepTo 46 = .ok (.iadd, 1) := by decide +kernel
theorem dX1_stepTo_47 : decode cX1_stepTo 47 = .ok (.iaload, 1) := by decide +kernel
theorem dX1_stepTo_48 : decode cX1_stepTo 48 = .ok (.invokestatic 57, 3) := by decide +kernel
theorem dX1_stepTo_51 : decode cX1_stepTo 51 = .ok (.iload 4, 2) := by decide +kernel
theorem dX1_stepTo_53 : decode cX1_stepTo 53 = .ok (.iadd, 1) := by decide +kernel
theorem dX1_stepTo_54 : decode cX1_stepTo 54 = .ok (.istore 7, 2) := by decide +kernel
theorem dX1_stepTo_56 : decode cX1_stepTo 56 = .ok (.aload_n 0, 1) := by decide +kernel
theorem dX1_stepTo_57 : decode cX1_stepTo 57 = .ok (.getfield 11, 3) := by decide +kernel
theorem dX1_stepTo_60 : decode cX1_stepTo 60 = .ok (.iload_n 1, 1) := by decide +kernel
theorem dX1_stepTo_61 : decode cX1_stepTo 61 = .ok (.aload_n 0, 1) := by decide +kernel
theorem dX1_stepTo_62 : decode cX1_stepTo 62 = .ok (.getfield 11, 3) := by decide +kernel
theorem dX1_stepTo_65 : decode cX1_stepTo 65 = .ok (.iload_n 1, 1) := by decide +kernel
theorem dX1_stepTo_66 : decode cX1_stepTo 66 = .ok (.iaload, 1) := by decide +kernel
theorem dX1_stepTo_67 : decode cX1_stepTo 67 = .ok (.iload 6, 2) := by decide +kernel
theorem dX1_stepTo_69 : decode cX1_stepTo 69 = .ok (.iload 7, 2) := by decide +kernel
theorem dX1_stepTo_71 : decode cX1_stepTo 71 = .ok (.invokestatic 57, 3) := by decide +kernel
theorem dX1_stepTo_74 : decode cX1_stepTo 74 = .ok (.invokestatic 57, 3) := by decide +kernel
theorem dX1_stepTo_77 : decode cX1_stepTo 77 = .ok (.iastore, 1) := by decide +kernel
theorem dX1_stepTo_78 : decode cX1_stepTo 78 = .ok (.return_, 1) := by decide +kernel
theorem dX1_indexOf_0 : decode cX1_indexOf 0 = .ok (.iload_n 1, 1) := by decide +kernel
theorem dX1_indexOf_1 : decode cX1_indexOf 1 = .ok (.iconst 1, 1) := by decide +kernel
theorem dX1_indexOf_2 : decode cX1_indexOf 2 = .ok (.iadd, 1) := by decide +kernel
theorem dX1_indexOf_3 : decode cX1_indexOf 3 = .ok (.bipush 13, 2) := by decide +kernel
theorem dX1_indexOf_5 : decode cX1_indexOf 5 = .ok (.imul, 1) := by decide +kernel
theorem dX1_indexOf_6 : decode cX1_indexOf 6 = .ok (.iload_n 0, 1) := by decide +kernel
theorem dX1_indexOf_7 : decode cX1_indexOf 7 = .ok (.iadd, 1) := by decide +kernel
theorem dX1_indexOf_8 : decode cX1_indexOf 8 = .ok (.iconst 1, 1) := by decide +kernel
theorem dX1_indexOf_9 : decode cX1_indexOf 9 = .ok (.iadd, 1) := by decide +kernel
theorem dX1_indexOf_10 : decode cX1_indexOf 10 = .ok (.ireturn, 1) := by decide +kernel
theorem dX1_at_0 : decode cX1_at 0 = .ok (.iload_n 1, 1) := by decide +kernel
theorem dX1_at_1 : decode cX1_at 1 = .ok (.ifCond .lt 36, 3) := by decide +kernel
theorem dX1_at_4 : decode cX1_at 4 = .ok (.iload_n 1, 1) := by decide +kernel
theorem dX1_at_5 : decode cX1_at 5 = .ok (.aload_n 0, 1) := by decide +kernel
theorem dX1_at_6 : decode cX1_at 6 = .ok (.getfield 15, 3) := by decide +kernel
theorem dX1_at_9 : decode cX1_at 9 = .ok (.if_icmp .ge 28, 3) := by decide +kernel
theorem dX1_at_12 : decode cX1_at 12 = .ok (.iload_n 2, 1) := by decide +kernel
theorem dX1_at_13 : decode cX1_at 13 = .ok (.ifCond .lt 24, 3) := by decide +kernel
theorem dX1_at_16 : decode cX1_at 16 = .ok (.iload_n 2, 1) := by decide +kernel
theorem dX1_at_17 : decode cX1_at 17 = .ok (.aload_n 0, 1) := by decide +kernel
theorem dX1_at_18 : decode cX1_at 18 = .ok (.getfield 19, 3) := by decide +kernel
theorem dX1_at_21 : decode cX1_at 21 = .ok (.if_icmp .ge 16, 3) := by decide +kernel
theorem dX1_at_24 : decode cX1_at 24 = .ok (.aload_n 0, 1) := by decide +kernel
theorem dX1_at_25 : decode cX1_at 25 = .ok (.getfield 11, 3) := by decide +kernel
theorem dX1_at_28 : decode cX1_at 28 = .ok (.iload_n 1, 1) := by decide +kernel
theorem dX1_at_29 : decode cX1_at 29 = .ok (.iload_n 2, 1) := by decide +kernel
theorem dX1_at_30 : decode cX1_at 30 = .ok (.invokestatic 41, 3) := by decide +kernel
theorem dX1_at_33 : decode cX1_at 33 = .ok (.iaload, 1) := by decide +kernel
theorem dX1_at_34 : decode cX1_at 34 = .ok (.goto 5, 3) := by decide +kernel
theorem dX1_at_37 : decode cX1_at 37 = .ok (.bipush (-4), 2) := by decide +kernel
theorem dX1_at_39 : decode cX1_at 39 = .ok (.ireturn, 1) := by decide +kernel
theorem dX1_cellsSoFar_0 : decode cX1_cellsSoFar 0 = .ok (.iconst 0, 1) := by decide +kernel
theorem dX1_cellsSoFar_1 : decode cX1_cellsSoFar 1 = .ok (.istore_n 2, 1) := by decide +kernel
theorem dX1_cellsSoFar_2 : decode cX1_cellsSoFar 2 = .ok (.iconst 0, 1) := by decide +kernel
theorem dX1_cellsSoFar_3 : decode cX1_cellsSoFar 3 = .ok (.istore_n 3, 1) := by decide +kernel
theorem dX1_cellsSoFar_4 : decode cX1_cellsSoFar 4 = .ok (.iload_n 3, 1) := by decide +kernel
theorem dX1_cellsSoFar_5 : decode cX1_cellsSoFar 5 = .ok (.aload_n 0, 1) := by decide +kernel
theorem dX1_cellsSoFar_6 : decode cX1_cellsSoFar 6 = .ok (.getfield 19, 3) := by decide +kernel
theorem dX1_cellsSoFar_9 : decode cX1_cellsSoFar 9 = .ok (.if_icmp .ge 45, 3) := by decide +kernel
theorem dX1_cellsSoFar_12 : decode cX1_cellsSoFar 12 = .ok (.iconst 0, 1) := by decide +kernel
theorem dX1_cellsSoFar_13 : decode cX1_cellsSoFar 13 = .ok (.istore 4, 2) := by decide +kernel
theorem dX1_cellsSoFar_15 : decode cX1_cellsSoFar 15 = .ok (.iload 4, 2) := by decide +kernel
theorem dX1_cellsSoFar_17 : decode cX1_cellsSoFar 17 = .ok (.aload_n 0, 1) := by decide +kernel
theorem dX1_cellsSoFar_18 : decode cX1_cellsSoFar 18 = .ok (.getfield 15, 3) := by decide +kernel
theorem dX1_cellsSoFar_21 : decode cX1_cellsSoFar 21 = .ok (.if_icmp .ge 27, 3) := by decide +kernel
theorem dX1_cellsSoFar_24 : decode cX1_cellsSoFar 24 = .ok (.aload_n 0, 1) := by decide +kernel
theorem dX1_cellsSoFar_25 : decode cX1_cellsSoFar 25 = .ok (.getfield 11, 3) := by decide +kernel
theorem dX1_cellsSoFar_28 : decode cX1_cellsSoFar 28 = .ok (.iload 4, 2) := by decide +kernel
theorem dX1_cellsSoFar_30 : decode cX1_cellsSoFar 30 = .ok (.iload_n 3, 1) := by decide +kernel
theorem dX1_cellsSoFar_31 : decode cX1_cellsSoFar 31 = .ok (.invokestatic 41, 3) := by decide +kernel
theorem dX1_cellsSoFar_34 : decode cX1_cellsSoFar 34 = .ok (.iaload, 1) := by decide +kernel
theorem dX1_cellsSoFar_35 : decode cX1_cellsSoFar 35 = .ok (.iload_n 1, 1) := by decide +kernel
theorem dX1_cellsSoFar_36 : decode cX1_cellsSoFar 36 = .ok (.if_icmp .ne 6, 3) := by decide +kernel
theorem dX1_cellsSoFar_39 : decode cX1_cellsSoFar 39 = .ok (.iinc 2 1, 3) := by decide +kernel
theorem dX1_cellsSoFar_42 : decode cX1_cellsSoFar 42 = .ok (.iinc 4 1, 3) := by decide +kernel
theorem dX1_cellsSoFar_45 : decode cX1_cellsSoFar 45 = .ok (.goto (-30), 3) := by decide +kernel
theorem dX1_cellsSoFar_48 : decode cX1_cellsSoFar 48 = .ok (.iinc 3 1, 3) := by decide +kernel
theorem dX1_cellsSoFar_51 : decode cX1_cellsSoFar 51 = .ok (.goto (-47), 3) := by decide +kernel
theorem dX1_cellsSoFar_54 : decode cX1_cellsSoFar 54 = .ok (.iload_n 2, 1) := by decide +kernel
theorem dX1_cellsSoFar_55 : decode cX1_cellsSoFar 55 = .ok (.ireturn, 1) := by decide +kernel
theorem dX1_leastIn_0 : decode cX1_leastIn 0 = .ok (.bipush (-4), 2) := by decide +kernel
theorem dX1_leastIn_2 : decode cX1_leastIn 2 = .ok (.istore 5, 2) := by decide +kernel
theorem dX1_leastIn_4 : decode cX1_leastIn 4 = .ok (.iload_n 2, 1) := by decide +kernel
theorem dX1_leastIn_5 : decode cX1_leastIn 5 = .ok (.iconst 0, 1) := by decide +kernel
theorem dX1_leastIn_6 : decode cX1_leastIn 6 = .ok (.invokestatic 62, 3) := by decide +kernel
theorem dX1_leastIn_9 : decode cX1_leastIn 9 = .ok (.istore 6, 2) := by decide +kernel
theorem dX1_leastIn_11 : decode cX1_leastIn 11 = .ok (.iload 6, 2) := by decide +kernel
theorem dX1_leastIn_13 : decode cX1_leastIn 13 = .ok (.iload 4, 2) := by decide +kernel
theorem dX1_leastIn_15 : decode cX1_leastIn 15 = .ok (.if_icmp .gt 78, 3) := by decide +kernel
theorem dX1_leastIn_18 : decode cX1_leastIn 18 = .ok (.iload 6, 2) := by decide +kernel
theorem dX1_leastIn_20 : decode cX1_leastIn 20 = .ok (.aload_n 0, 1) := by decide +kernel
theorem dX1_leastIn_21 : decode cX1_leastIn 21 = .ok (.getfield 19, 3) := by decide +kernel
theorem dX1_leastIn_24 : decode cX1_leastIn 24 = .ok (.if_icmp .ge 69, 3) := by decide +kernel
theorem dX1_leastIn_27 : decode cX1_leastIn 27 = .ok (.iload_n 1, 1) := by decide +kernel
theorem dX1_leastIn_28 : decode cX1_leastIn 28 = .ok (.iconst 0, 1) := by decide +kernel
theorem dX1_leastIn_29 : decode cX1_leastIn 29 = .ok (.invokestatic 62, 3) := by decide +kernel
theorem dX1_leastIn_32 : decode cX1_leastIn 32 = .ok (.istore 7, 2) := by decide +kernel
theorem dX1_leastIn_34 : decode cX1_leastIn 34 = .ok (.iload 7, 2) := by decide +kernel
theorem dX1_leastIn_36 : decode cX1_leastIn 36 = .ok (.iload_n 3, 1) := by decide +kernel
theorem dX1_leastIn_37 : decode cX1_leastIn 37 = .ok (.if_icmp .gt 50, 3) := by decide +kernel
theorem dX1_leastIn_40 : decode cX1_leastIn 40 = .ok (.iload 7, 2) := by decide +kernel
theorem dX1_leastIn_42 : decode cX1_leastIn 42 = .ok (.aload_n 0, 1) := by decide +kernel
theorem dX1_leastIn_43 : decode cX1_leastIn 43 = .ok (.getfield 15, 3) := by decide +kernel
theorem dX1_leastIn_46 : decode cX1_leastIn 46 = .ok (.if_icmp .ge 41, 3) := by decide +kernel
theorem dX1_leastIn_49 : decode cX1_leastIn 49 = .ok (.aload_n 0, 1) := by decide +kernel
theorem dX1_leastIn_50 : decode cX1_leastIn 50 = .ok (.getfield 11, 3) := by decide +kernel
theorem dX1_leastIn_53 : decode cX1_leastIn 53 = .ok (.iload 7, 2) := by decide +kernel
theorem dX1_leastIn_55 : decode cX1_leastIn 55 = .ok (.iload 6, 2) := by decide +kernel
theorem dX1_leastIn_57 : decode cX1_leastIn 57 = .ok (.invokestatic 41, 3) := by decide +kernel
theorem dX1_leastIn_60 : decode cX1_leastIn 60 = .ok (.iaload, 1) := by decide +kernel
theorem dX1_leastIn_61 : decode cX1_leastIn 61 = .ok (.istore 8, 2) := by decide +kernel
theorem dX1_leastIn_63 : decode cX1_leastIn 63 = .ok (.iload 5, 2) := by decide +kernel
theorem dX1_leastIn_65 : decode cX1_leastIn 65 = .ok (.bipush (-4), 2) := by decide +kernel
theorem dX1_leastIn_67 : decode cX1_leastIn 67 = .ok (.if_icmp .eq 10, 3) := by decide +kernel
theorem dX1_leastIn_70 : decode cX1_leastIn 70 = .ok (.iload 8, 2) := by decide +kernel
theorem dX1_leastIn_72 : decode cX1_leastIn 72 = .ok (.iload 5, 2) := by decide +kernel
theorem dX1_leastIn_74 : decode cX1_leastIn 74 = .ok (.if_icmp .ge 7, 3) := by decide +kernel
theorem dX1_leastIn_77 : decode cX1_leastIn 77 = .ok (.iload 8, 2) := by decide +kernel
theorem dX1_leastIn_79 : decode cX1_leastIn 79 = .ok (.istore 5, 2) := by decide +kernel
theorem dX1_leastIn_81 : decode cX1_leastIn 81 = .ok (.iinc 7 1, 3) := by decide +kernel
theorem dX1_leastIn_84 : decode cX1_leastIn 84 = .ok (.goto (-50), 3) := by decide +kernel
theorem dX1_leastIn_87 : decode cX1_leastIn 87 = .ok (.iinc 6 1, 3) := by decide +kernel
theorem dX1_leastIn_90 : decode cX1_leastIn 90 = .ok (.goto (-79), 3) := by decide +kernel
theorem dX1_leastIn_93 : decode cX1_leastIn 93 = .ok (.iload 5, 2) := by decide +kernel
theorem dX1_leastIn_95 : decode cX1_leastIn 95 = .ok (.ireturn, 1) := by decide +kernel
theorem dX2_init_0 : decode cX2_init 0 = .ok (.aload_n 0, 1) := by decide +kernel
theorem dX2_init_1 : decode cX2_init 1 = .ok (.invokespecial 1, 3) := by decide +kernel
theorem dX2_init_4 : decode cX2_init 4 = .ok (.aload_n 0, 1) := by decide +kernel
theorem dX2_init_5 : decode cX2_init 5 = .ok (.iconst 0, 1) := by decide +kernel
theorem dX2_init_6 : decode cX2_init 6 = .ok (.putfield 7, 3) := by decide +kernel
theorem dX2_init_9 : decode cX2_init 9 = .ok (.aload_n 0, 1) := by decide +kernel
theorem dX2_init_10 : decode cX2_init 10 = .ok (.iconst 0, 1) := by decide +kernel
theorem dX2_init_11 : decode cX2_init 11 = .ok (.putfield 13, 3) := by decide +kernel
theorem dX2_init_14 : decode cX2_init 14 = .ok (.aload_n 0, 1) := by decide +kernel
theorem dX2_init_15 : decode cX2_init 15 = .ok (.iconst 0, 1) := by decide +kernel
theorem dX2_init_16 : decode cX2_init 16 = .ok (.putfield 16, 3) := by decide +kernel
theorem dX2_init_19 : decode cX2_init 19 = .ok (.aload_n 0, 1) := by decide +kernel
theorem dX2_init_20 : decode cX2_init 20 = .ok (.iconst 0, 1) := by decide +kernel
theorem dX2_init_21 : decode cX2_init 21 = .ok (.putfield 19, 3) := by decide +kernel
theorem dX2_init_24 : decode cX2_init 24 = .ok (.return_, 1) := by decide +kernel
theorem dX2_weigh_0 : decode cX2_weigh 0 = .ok (.aload_n 2, 1) := by decide +kernel
theorem dX2_weigh_1 : decode cX2_weigh 1 = .ok (.aload_n 1, 1) := by decide +kernel
theorem dX2_weigh_2 : decode cX2_weigh 2 = .ok (.getfield 22, 3) := by decide +kernel
theorem dX2_weigh_5 : decode cX2_weigh 5 = .ok (.aload_n 1, 1) := by decide +kernel
theorem dX2_weigh_6 : decode cX2_weigh 6 = .ok (.getfield 27, 3) := by decide +kernel
theorem dX2_weigh_9 : decode cX2_weigh 9 = .ok (.iload_n 3, 1) := by decide +kernel
theorem dX2_weigh_10 : decode cX2_weigh 10 = .ok (.iload 4, 2) := by decide +kernel
theorem dX2_weigh_12 : decode cX2_weigh 12 = .ok (.invokevirtual 30, 3) := by decide +kernel
theorem dX2_weigh_15 : decode cX2_weigh 15 = .ok (.ifCond .ne 5, 3) := by decide +kernel
theorem dX2_weigh_18 : decode cX2_weigh 18 = .ok (.iconst 0, 1) := by decide +kernel
theorem dX2_weigh_19 : decode cX2_weigh 19 = .ok (.ireturn, 1) := by decide +kernel
theorem dX2_weigh_20 : decode cX2_weigh 20 = .ok (.aload_n 0, 1) := by decide +kernel
theorem dX2_weigh_21 : decode cX2_weigh 21 = .ok (.iconst 0, 1) := by decide +kernel
theorem dX2_weigh_22 : decode cX2_weigh 22 = .ok (.putfield 7, 3) := by decide +kernel
theorem dX2_weigh_25 : decode cX2_weigh 25 = .ok (.aload_n 0, 1) := by decide +kernel
theorem dX2_weigh_26 : decode cX2_weigh 26 = .ok (.iconst 0, 1) := by decide +kernel
theorem dX2_weigh_27 : decode cX2_weigh 27 = .ok (.putfield 13, 3) := by decide +kernel
theorem dX2_weigh_30 : decode cX2_weigh 30 = .ok (.aload_n 0, 1) := by decide +kernel
theorem dX2_weigh_31 : decode cX2_weigh 31 = .ok (.iconst 0, 1) := by decide +kernel
theorem dX2_weigh_32 : decode cX2_weigh 32 = .ok (.putfield 16, 3) := by decide +kernel
theorem dX2_weigh_35 : decode cX2_weigh 35 = .ok (.aload_n 0, 1) := by decide +kernel
theorem dX2_weigh_36 : decode cX2_weigh 36 = .ok (.iconst 0, 1) := by decide +kernel
theorem dX2_weigh_37 : decode cX2_weigh 37 = .ok (.putfield 19, 3) := by decide +kernel
theorem dX2_weigh_40 : decode cX2_weigh 40 = .ok (.iconst 0, 1) := by decide +kernel
theorem dX2_weigh_41 : decode cX2_weigh 41 = .ok (.istore 5, 2) := by decide +kernel
theorem dX2_weigh_43 : decode cX2_weigh 43 = .ok (.iload 5, 2) := by decide +kernel
theorem dX2_weigh_45 : decode cX2_weigh 45 = .ok (.aload_n 2, 1) := by decide +kernel
theorem dX2_weigh_46 : decode cX2_weigh 46 = .ok (.getfield 36, 3) := by decide +kernel
theorem dX2_weigh_49 : decode cX2_weigh 49 = .ok (.if_icmp .ge 85, 3) := by decide +kernel
theorem dX2_weigh_52 : decode cX2_weigh 52 = .ok (.aload_n 1, 1) := by decide +kernel
theorem dX2_weigh_53 : decode cX2_weigh 53 = .ok (.getfield 39, 3) := by decide +kernel
theorem dX2_weigh_56 : decode cX2_weigh 56 = .ok (.iload_n 3, 1) := by decide +kernel
theorem dX2_weigh_57 : decode cX2_weigh 57 = .ok (.aload_n 2, 1) := by decide +kernel
theorem dX2_weigh_58 : decode cX2_weigh 58 = .ok (.getfield 43, 3) := by decide +kernel
theorem dX2_weigh_61 : decode cX2_weigh 61 = .ok (.iload 5, 2) := by decide +kernel
theorem dX2_weigh_63 : decode cX2_weigh 63 = .ok (.iaload, 1) := by decide +kernel
theorem dX2_weigh_64 : decode cX2_weigh 64 = .ok (.iadd, 1) := by decide +kernel
theorem dX2_weigh_65 : decode cX2_weigh 65 = .ok (.iload 4, 2) := by decide +kernel
theorem dX2_weigh_67 : decode cX2_weigh 67 = .ok (.aload_n 2, 1) := by decide +kernel
theorem dX2_weigh_68 : decode cX2_weigh 68 = .ok (.getfield 46, 3) := by decide +kernel
theorem dX2_weigh_71 : decode cX2_weigh 71 = .ok (.iload 5, 2) := by decide +kernel
theorem dX2_weigh_73 : decode cX2_weigh 73 = .ok (.iaload, 1) := by decide +kernel
theorem dX2_weigh_74 : decode cX2_weigh 74 = .ok (.iadd, 1) := by decide +kernel
theorem dX2_weigh_75 : decode cX2_weigh 75 = .ok (.invokestatic 49, 3) := by decide +kernel
theorem dX2_weigh_78 : decode cX2_weigh 78 = .ok (.iaload, 1) := by decide +kernel
theorem dX2_weigh_79 : decode cX2_weigh 79 = .ok (.istore 6, 2) := by decide +kernel
theorem dX2_weigh_81 : decode cX2_weigh 81 = .ok (.aload_n 0, 1) := by decide +kernel
theorem dX2_weigh_82 : decode cX2_weigh 82 = .ok (.dup, 1) := by decide +kernel
theorem dX2_weigh_83 : decode cX2_weigh 83 = .ok (.getfield 7, 3) := by decide +kernel
theorem dX2_weigh_86 : decode cX2_weigh 86 = .ok (.iload 6, 2) := by decide +kernel
theorem dX2_weigh_88 : decode cX2_weigh 88 = .ok (.iadd, 1) := by decide +kernel
theorem dX2_weigh_89 : decode cX2_weigh 89 = .ok (.putfield 7, 3) := by decide +kernel
theorem dX2_weigh_92 : decode cX2_weigh 92 = .ok (.iload 6, 2) := by decide +kernel
theorem dX2_weigh_94 : decode cX2_weigh 94 = .ok (.ifCond .ne 13, 3) := by decide +kernel
theorem dX2_weigh_97 : decode cX2_weigh 97 = .ok (.aload_n 0, 1) := by decide +kernel
theorem dX2_weigh_98 : decode cX2_weigh 98 = .ok (.dup, 1) := by decide +kernel
theorem dX2_weigh_99 : decode cX2_weigh 99 = .ok (.getfield 19, 3) := by decide +kernel
theorem dX2_weigh_102 : decode cX2_weigh 102 = .ok (.iconst 1, 1) := by decide +kernel
theorem dX2_weigh_103 : decode cX2_weigh 103 = .ok (.iadd, 1) := by decide +kernel
theorem dX2_weigh_104 : decode cX2_weigh 104 = .ok (.putfield 19, 3) := by decide +kernel
theorem dX2_weigh_107 : decode cX2_weigh 107 = .ok (.iload 6, 2) := by decide +kernel
theorem dX2_weigh_109 : decode cX2_weigh 109 = .ok (.aload_n 0, 1) := by decide +kernel
theorem dX2_weigh_110 : decode cX2_weigh 110 = .ok (.getfield 13, 3) := by decide +kernel
theorem dX2_weigh_113 : decode cX2_weigh 113 = .ok (.if_icmp .le 15, 3) := by decide +kernel
theorem dX2_weigh_116 : decode cX2_weigh 116 = .ok (.aload_n 0, 1) := by decide +kernel
theorem dX2_weigh_117 : decode cX2_weigh 117 = .ok (.iload 6, 2) := by decide +kernel
theorem dX2_weigh_119 : decode cX2_weigh 119 = .ok (.putfield 13, 3) := by decide +kernel
theorem dX2_weigh_122 : decode cX2_weigh 122 = .ok (.aload_n 0, 1) := by decide +kernel
theorem dX2_weigh_123 : decode cX2_weigh 123 = .ok (.iload 5, 2) := by decide +kernel
theorem dX2_weigh_125 : decode cX2_weigh 125 = .ok (.putfield 16, 3) := by decide +kernel
theorem dX2_weigh_128 : decode cX2_weigh 128 = .ok (.iinc 5 1, 3) := by decide +kernel
theorem dX2_weigh_131 : decode cX2_weigh 131 = .ok (.goto (-88), 3) := by decide +kernel
theorem dX2_weigh_134 : decode cX2_weigh 134 = .ok (.iconst 1, 1) := by decide +kernel
theorem dX2_weigh_135 : decode cX2_weigh 135 = .ok (.ireturn, 1) := by decide +kernel
theorem dX3_init_0 : decode cX3_init 0 = .ok (.aload_n 0, 1) := by decide +kernel
theorem dX3_init_1 : decode cX3_init 1 = .ok (.invokespecial 3, 3) := by decide +kernel
theorem dX3_init_4 : decode cX3_init 4 = .ok (.aload_n 0, 1) := by decide +kernel
theorem dX3_init_5 : decode cX3_init 5 = .ok (.bipush 6, 2) := by decide +kernel
theorem dX3_init_7 : decode cX3_init 7 = .ok (.anewarray 9, 3) := by decide +kernel
theorem dX3_init_10 : decode cX3_init 10 = .ok (.putfield 11, 3) := by decide +kernel
theorem dX3_init_13 : decode cX3_init 13 = .ok (.aload_n 0, 1) := by decide +kernel
theorem dX3_init_14 : decode cX3_init 14 = .ok (.bipush 6, 2) := by decide +kernel
theorem dX3_init_16 : decode cX3_init 16 = .ok (.newarray .int, 2) := by decide +kernel
theorem dX3_init_18 : decode cX3_init 18 = .ok (.putfield 17, 3) := by decide +kernel
theorem dX3_init_21 : decode cX3_init 21 = .ok (.aload_n 0, 1) := by decide +kernel
theorem dX3_init_22 : decode cX3_init 22 = .ok (.iconst 0, 1) := by decide +kernel
theorem dX3_init_23 : decode cX3_init 23 = .ok (.putfield 21, 3) := by decide +kernel
theorem dX3_init_26 : decode cX3_init 26 = .ok (.aload_n 0, 1) := by decide +kernel
theorem dX3_init_27 : decode cX3_init 27 = .ok (.iconst 0, 1) := by decide +kernel
theorem dX3_init_28 : decode cX3_init 28 = .ok (.putfield 25, 3) := by decide +kernel
theorem dX3_init_31 : decode cX3_init 31 = .ok (.iconst 0, 1) := by decide +kernel
theorem dX3_init_32 : decode cX3_init 32 = .ok (.istore_n 1, 1) := by decide +kernel
theorem dX3_init_33 : decode cX3_init 33 = .ok (.iload_n 1, 1) := by decide +kernel
theorem dX3_init_34 : decode cX3_init 34 = .ok (.bipush 6, 2) := by decide +kernel
theorem dX3_init_36 : decode cX3_init 36 = .ok (.if_icmp .ge 22, 3) := by decide +kernel
theorem dX3_init_39 : decode cX3_init 39 = .ok (.aload_n 0, 1) := by decide +kernel
theorem dX3_init_40 : decode cX3_init 40 = .ok (.getfield 11, 3) := by decide +kernel
theorem dX3_init_43 : decode cX3_init 43 = .ok (.iload_n 1, 1) := by decide +kernel
theorem dX3_init_44 : decode cX3_init 44 = .ok (.new 9, 3) := by decide +kernel
theorem dX3_init_47 : decode cX3_init 47 = .ok (.dup, 1) := by decide +kernel
theorem dX3_init_48 : decode cX3_init 48 = .ok (.invokespecial 28, 3) := by decide +kernel
theorem dX3_init_51 : decode cX3_init 51 = .ok (.aastore, 1) := by decide +kernel
theorem dX3_init_52 : decode cX3_init 52 = .ok (.iinc 1 1, 3) := by decide +kernel
theorem dX3_init_55 : decode cX3_init 55 = .ok (.goto (-22), 3) := by decide +kernel
theorem dX3_init_58 : decode cX3_init 58 = .ok (.return_, 1) := by decide +kernel
theorem dX3_keep_0 : decode cX3_keep 0 = .ok (.aload_n 0, 1) := by decide +kernel
theorem dX3_keep_1 : decode cX3_keep 1 = .ok (.getfield 11, 3) := by decide +kernel
theorem dX3_keep_4 : decode cX3_keep 4 = .ok (.aload_n 0, 1) := by decide +kernel
theorem dX3_keep_5 : decode cX3_keep 5 = .ok (.getfield 21, 3) := by decide +kernel
theorem dX3_keep_8 : decode cX3_keep 8 = .ok (.aaload, 1) := by decide +kernel
theorem dX3_keep_9 : decode cX3_keep 9 = .ok (.aload_n 1, 1) := by decide +kernel
theorem dX3_keep_10 : decode cX3_keep 10 = .ok (.invokevirtual 29, 3) := by decide +kernel
theorem dX3_keep_13 : decode cX3_keep 13 = .ok (.aload_n 0, 1) := by decide +kernel
theorem dX3_keep_14 : decode cX3_keep 14 = .ok (.getfield 17, 3) := by decide +kernel
theorem dX3_keep_17 : decode cX3_keep 17 = .ok (.aload_n 0, 1) := by decide +kernel
theorem dX3_keep_18 : decode cX3_keep 18 = .ok (.getfield 21, 3) := by decide +kernel
theorem dX3_keep_21 : decode cX3_keep 21 = .ok (.iload_n 2, 1) := by decide +kernel
theorem dX3_keep_22 : decode cX3_keep 22 = .ok (.iastore, 1) := by decide +kernel
theorem dX3_keep_23 : decode cX3_keep 23 = .ok (.aload_n 0, 1) := by decide +kernel
theorem dX3_keep_24 : decode cX3_keep 24 = .ok (.aload_n 0, 1) := by decide +kernel
theorem dX3_keep_25 : decode cX3_keep 25 = .ok (.getfield 21, 3) := by decide +kernel
theorem dX3_keep_28 : decode cX3_keep 28 = .ok (.iconst 1, 1) := by decide +kernel
theorem dX3_keep_29 : decode cX3_keep 29 = .ok (.iadd, 1) := by decide +kernel
theorem dX3_keep_30 : decode cX3_keep 30 = .ok (.bipush 6, 2) := by decide +kernel
theorem dX3_keep_32 : decode cX3_keep 32 = .ok (.irem, 1) := by decide +kernel
theorem dX3_keep_33 : decode cX3_keep 33 = .ok (.putfield 21, 3) := by decide +kernel
theorem dX3_keep_36 : decode cX3_keep 36 = .ok (.aload_n 0, 1) := by decide +kernel
theorem dX3_keep_37 : decode cX3_keep 37 = .ok (.aload_n 0, 1) := by decide +kernel
theorem dX3_keep_38 : decode cX3_keep 38 = .ok (.getfield 25, 3) := by decide +kernel
theorem dX3_keep_41 : decode cX3_keep 41 = .ok (.iconst 1, 1) := by decide +kernel
theorem dX3_keep_42 : decode cX3_keep 42 = .ok (.iadd, 1) := by decide +kernel
theorem dX3_keep_43 : decode cX3_keep 43 = .ok (.bipush 6, 2) := by decide +kernel
theorem dX3_keep_45 : decode cX3_keep 45 = .ok (.invokestatic 33, 3) := by decide +kernel
theorem dX3_keep_48 : decode cX3_keep 48 = .ok (.putfield 25, 3) := by decide +kernel
theorem dX3_keep_51 : decode cX3_keep 51 = .ok (.return_, 1) := by decide +kernel
theorem dX3_restoreLatest_0 : decode cX3_restoreLatest 0 = .ok (.aload_n 0, 1) := by decide +kernel
theorem dX3_restoreLatest_1 : decode cX3_restoreLatest 1 = .ok (.getfield 25, 3) := by decide +kernel
theorem dX3_restoreLatest_4 : decode cX3_restoreLatest 4 = .ok (.ifCond .le 55, 3) := by decide +kernel
theorem dX3_restoreLatest_7 : decode cX3_restoreLatest 7 = .ok (.aload_n 0, 1) := by decide +kernel
theorem dX3_restoreLatest_8 : decode cX3_restoreLatest 8 = .ok (.dup, 1) := by decide +kernel
theorem dX3_restoreLatest_9 : decode cX3_restoreLatest 9 = .ok (.getfield 25, 3) := by decide +kernel
theorem dX3_restoreLatest_12 : decode cX3_restoreLatest 12 = .ok (.iconst 1, 1) := by decide +kernel
theorem dX3_restoreLatest_13 : decode cX3_restoreLatest 13 = .ok (.isub, 1) := by decide +kernel
theorem dX3_restoreLatest_14 : decode cX3_restoreLatest 14 = .ok (.putfield 25, 3) := by decide +kernel
theorem dX3_restoreLatest_17 : decode cX3_restoreLatest 17 = .ok (.aload_n 0, 1) := by decide +kernel
theorem dX3_restoreLatest_18 : decode cX3_restoreLatest 18 = .ok (.aload_n 0, 1) := by decide +kernel
theorem dX3_restoreLatest_19 : decode cX3_restoreLatest 19 = .ok (.getfield 21, 3) := by decide +kernel
theorem dX3_restoreLatest_22 : decode cX3_restoreLatest 22 = .ok (.bipush 6, 2) := by decide +kernel
theorem dX3_restoreLatest_24 : decode cX3_restoreLatest 24 = .ok (.iadd, 1) := by decide +kernel
theorem dX3_restoreLatest_25 : decode cX3_restoreLatest 25 = .ok (.iconst 1, 1) := by decide +kernel
theorem dX3_restoreLatest_26 : decode cX3_restoreLatest 26 = .ok (.isub, 1) := by decide +kernel
theorem dX3_restoreLatest_27 : decode cX3_restoreLatest 27 = .ok (.bipush 6, 2) := by decide +kernel
theorem dX3_restoreLatest_29 : decode cX3_restoreLatest 29 = .ok (.irem, 1) := by decide +kernel
theorem dX3_restoreLatest_30 : decode cX3_restoreLatest 30 = .ok (.putfield 21, 3) := by decide +kernel
theorem dX3_restoreLatest_33 : decode cX3_restoreLatest 33 = .ok (.aload_n 1, 1) := by decide +kernel
theorem dX3_restoreLatest_34 : decode cX3_restoreLatest 34 = .ok (.aload_n 0, 1) := by decide +kernel
theorem dX3_restoreLatest_35 : decode cX3_restoreLatest 35 = .ok (.getfield 11, 3) := by decide +kernel
theorem dX3_restoreLatest_38 : decode cX3_restoreLatest 38 = .ok (.aload_n 0, 1) := by decide +kernel
theorem dX3_restoreLatest_39 : decode cX3_restoreLatest 39 = .ok (.getfield 21, 3) := by decide +kernel
theorem dX3_restoreLatest_42 : decode cX3_restoreLatest 42 = .ok (.aaload, 1) := by decide +kernel
theorem dX3_restoreLatest_43 : decode cX3_restoreLatest 43 = .ok (.invokevirtual 29, 3) := by decide +kernel
theorem dX3_restoreLatest_46 : decode cX3_restoreLatest 46 = .ok (.aload_n 2, 1) := by decide +kernel
theorem dX3_restoreLatest_47 : decode cX3_restoreLatest 47 = .ok (.aload_n 0, 1) := by decide +kernel
theorem dX3_restoreLatest_48 : decode cX3_restoreLatest 48 = .ok (.getfield 17, 3) := by decide +kernel
theorem dX3_restoreLatest_51 : decode cX3_restoreLatest 51 = .ok (.aload_n 0, 1) := by decide +kernel
theorem dX3_restoreLatest_52 : decode cX3_restoreLatest 52 = .ok (.getfield 21, 3) := by decide +kernel
theorem dX3_restoreLatest_55 : decode cX3_restoreLatest 55 = .ok (.iaload, 1) := by decide +kernel
theorem dX3_restoreLatest_56 : decode cX3_restoreLatest 56 = .ok (.putfield 39, 3) := by decide +kernel
theorem dX3_restoreLatest_59 : decode cX3_restoreLatest 59 = .ok (.return_, 1) := by decide +kernel
theorem dX4_of_0 : decode cX4_of 0 = .ok (.aload_n 0, 1) := by decide +kernel
theorem dX4_of_1 : decode cX4_of 1 = .ok (.getfield 13, 3) := by decide +kernel
theorem dX4_of_4 : decode cX4_of 4 = .ok (.bipush 100, 2) := by decide +kernel
theorem dX4_of_6 : decode cX4_of 6 = .ok (.imul, 1) := by decide +kernel
theorem dX4_of_7 : decode cX4_of 7 = .ok (.aload_n 0, 1) := by decide +kernel
theorem dX4_of_8 : decode cX4_of 8 = .ok (.getfield 19, 3) := by decide +kernel
theorem dX4_of_11 : decode cX4_of 11 = .ok (.iadd, 1) := by decide +kernel
theorem dX4_of_12 : decode cX4_of 12 = .ok (.bipush 24, 2) := by decide +kernel
theorem dX4_of_14 : decode cX4_of 14 = .ok (.imul, 1) := by decide +kernel
theorem dX4_of_15 : decode cX4_of 15 = .ok (.iload_n 1, 1) := by decide +kernel
theorem dX4_of_16 : decode cX4_of 16 = .ok (.iadd, 1) := by decide +kernel
theorem dX4_of_17 : decode cX4_of 17 = .ok (.bipush 121, 2) := by decide +kernel
theorem dX4_of_19 : decode cX4_of 19 = .ok (.imul, 1) := by decide +kernel
theorem dX4_of_20 : decode cX4_of 20 = .ok (.iload_n 2, 1) := by decide +kernel
theorem dX4_of_21 : decode cX4_of 21 = .ok (.iadd, 1) := by decide +kernel
theorem dX4_of_22 : decode cX4_of 22 = .ok (.ireturn, 1) := by decide +kernel
theorem dX4_scaleOf_0 : decode cX4_scaleOf 0 = .ok (.iload_n 0, 1) := by decide +kernel
theorem dX4_scaleOf_1 : decode cX4_scaleOf 1 = .ok (.bipush 8, 2) := by decide +kernel
theorem dX4_scaleOf_3 : decode cX4_scaleOf 3 = .ok (.idiv, 1) := by decide +kernel
theorem dX4_scaleOf_4 : decode cX4_scaleOf 4 = .ok (.iconst 2, 1) := by decide +kernel
theorem dX4_scaleOf_5 : decode cX4_scaleOf 5 = .ok (.iadd, 1) := by decide +kernel
theorem dX4_scaleOf_6 : decode cX4_scaleOf 6 = .ok (.ireturn, 1) := by decide +kernel
theorem dX4_turnsOf_0 : decode cX4_turnsOf 0 = .ok (.iload_n 0, 1) := by decide +kernel
theorem dX4_turnsOf_1 : decode cX4_turnsOf 1 = .ok (.iconst 2, 1) := by decide +kernel
theorem dX4_turnsOf_2 : decode cX4_turnsOf 2 = .ok (.idiv, 1) := by decide +kernel
theorem dX4_turnsOf_3 : decode cX4_turnsOf 3 = .ok (.iconst 4, 1) := by decide +kernel
theorem dX4_turnsOf_4 : decode cX4_turnsOf 4 = .ok (.irem, 1) := by decide +kernel
theorem dX4_turnsOf_5 : decode cX4_turnsOf 5 = .ok (.ireturn, 1) := by decide +kernel
theorem dX4_flipOf_0 : decode cX4_flipOf 0 = .ok (.iload_n 0, 1) := by decide +kernel
theorem dX4_flipOf_1 : decode cX4_flipOf 1 = .ok (.iconst 2, 1) := by decide +kernel
theorem dX4_flipOf_2 : decode cX4_flipOf 2 = .ok (.irem, 1) := by decide +kernel
theorem dX4_flipOf_3 : decode cX4_flipOf 3 = .ok (.ireturn, 1) := by decide +kernel
theorem dX4_part_0 : decode cX4_part 0 = .ok (.iload_n 0, 1) := by decide +kernel
theorem dX4_part_1 : decode cX4_part 1 = .ok (.bipush 121, 2) := by decide +kernel
theorem dX4_part_3 : decode cX4_part 3 = .ok (.irem, 1) := by decide +kernel
theorem dX4_part_4 : decode cX4_part 4 = .ok (.istore_n 2, 1) := by decide +kernel
theorem dX4_part_5 : decode cX4_part 5 = .ok (.iload_n 0, 1) := by decide +kernel
theorem dX4_part_6 : decode cX4_part 6 = .ok (.bipush 121, 2) := by decide +kernel
theorem dX4_part_8 : decode cX4_part 8 = .ok (.idiv, 1) := by decide +kernel
theorem dX4_part_9 : decode cX4_part 9 = .ok (.bipush 24, 2) := by decide +kernel
theorem dX4_part_11 : decode cX4_part 11 = .ok (.irem, 1) := by decide +kernel
theorem dX4_part_12 : decode cX4_part 12 = .ok (.istore_n 3, 1) := by decide +kernel
theorem dX4_part_13 : decode cX4_part 13 = .ok (.iload_n 0, 1) := by decide +kernel
theorem dX4_part_14 : decode cX4_part 14 = .ok (.sipush 2904, 3) := by decide +kernel
theorem dX4_part_17 : decode cX4_part 17 = .ok (.idiv, 1) := by decide +kernel
theorem dX4_part_18 : decode cX4_part 18 = .ok (.istore 4, 2) := by decide +kernel
theorem dX4_part_20 : decode cX4_part 20 = .ok (.iload_n 1, 1) := by decide +kernel
theorem dX4_part_21 : decode cX4_part 21 = .ok (.tableswitch 70 0 5 #[39, 44, 49, 54, 59, 64], 39) := by decide +kernel
theorem dX4_part_60 : decode cX4_part 60 = .ok (.iload_n 2, 1) := by decide +kernel
theorem dX4_part_61 : decode cX4_part 61 = .ok (.bipush 11, 2) := by decide +kernel
theorem dX4_part_63 : decode cX4_part 63 = .ok (.irem, 1) := by decide +kernel
theorem dX4_part_64 : decode cX4_part 64 = .ok (.ireturn, 1) := by decide +kernel
theorem dX4_part_65 : decode cX4_part 65 = .ok (.iload_n 2, 1) := by decide +kernel
theorem dX4_part_66 : decode cX4_part 66 = .ok (.bipush 11, 2) := by decide +kernel
theorem dX4_part_68 : decode cX4_part 68 = .ok (.idiv, 1) := by decide +kernel
theorem dX4_part_69 : decode cX4_part 69 = .ok (.ireturn, 1) := by decide +kernel
theorem dX4_part_70 : decode cX4_part 70 = .ok (.iload_n 3, 1) := by decide +kernel
theorem dX4_part_71 : decode cX4_part 71 = .ok (.invokestatic 22, 3) := by decide +kernel
theorem dX4_part_74 : decode cX4_part 74 = .ok (.ireturn, 1) := by decide +kernel
theorem dX4_part_75 : decode cX4_part 75 = .ok (.iload_n 3, 1) := by decide +kernel
theorem dX4_part_76 : decode cX4_part 76 = .ok (.invokestatic 26, 3) := by decide +kernel
theorem dX4_part_79 : decode cX4_part 79 = .ok (.ireturn, 1) := by decide +kernel
theorem dX4_part_80 : decode cX4_part 80 = .ok (.iload_n 3, 1) := by decide +kernel
theorem dX4_part_81 : decode cX4_part 81 = .ok (.invokestatic 29, 3) := by decide +kernel
theorem dX4_part_84 : decode cX4_part 84 = .ok (.ireturn, 1) := by decide +kernel
theorem dX4_part_85 : decode cX4_part 85 = .ok (.iload 4, 2) := by decide +kernel
theorem dX4_part_87 : decode cX4_part 87 = .ok (.bipush 100, 2) := by decide +kernel
theorem dX4_part_89 : decode cX4_part 89 = .ok (.idiv, 1) := by decide +kernel
theorem dX4_part_90 : decode cX4_part 90 = .ok (.ireturn, 1) := by decide +kernel
theorem dX4_part_91 : decode cX4_part 91 = .ok (.iload 4, 2) := by decide +kernel
theorem dX4_part_93 : decode cX4_part 93 = .ok (.bipush 100, 2) := by decide +kernel
theorem dX4_part_95 : decode cX4_part 95 = .ok (.irem, 1) := by decide +kernel
theorem dX4_part_96 : decode cX4_part 96 = .ok (.ireturn, 1) := by decide +kernel
theorem dX5_init_0 : decode cX5_init 0 = .ok (.aload_n 0, 1) := by decide +kernel
theorem dX5_init_1 : decode cX5_init 1 = .ok (.invokespecial 3, 3) := by decide +kernel
theorem dX5_init_4 : decode cX5_init 4 = .ok (.aload_n 0, 1) := by decide +kernel
theorem dX5_init_5 : decode cX5_init 5 = .ok (.new 9, 3) := by decide +kernel
theorem dX5_init_8 : decode cX5_init 8 = .ok (.dup, 1) := by decide +kernel
theorem dX5_init_9 : decode cX5_init 9 = .ok (.invokespecial 11, 3) := by decide +kernel
theorem dX5_init_12 : decode cX5_init 12 = .ok (.putfield 12, 3) := by decide +kernel
theorem dX5_init_15 : decode cX5_init 15 = .ok (.aload_n 0, 1) := by decide +kernel
theorem dX5_init_16 : decode cX5_init 16 = .ok (.new 18, 3) := by decide +kernel
theorem dX5_init_19 : decode cX5_init 19 = .ok (.dup, 1) := by decide +kernel
theorem dX5_init_20 : decode cX5_init 20 = .ok (.invokespecial 20, 3) := by decide +kernel
theorem dX5_init_23 : decode cX5_init 23 = .ok (.putfield 21, 3) := by decide +kernel
theorem dX5_init_26 : decode cX5_init 26 = .ok (.aload_n 0, 1) := by decide +kernel
theorem dX5_init_27 : decode cX5_init 27 = .ok (.bipush 10, 2) := by decide +kernel
theorem dX5_init_29 : decode cX5_init 29 = .ok (.newarray .int, 2) := by decide +kernel
theorem dX5_init_31 : decode cX5_init 31 = .ok (.putfield 25, 3) := by decide +kernel
theorem dX5_init_34 : decode cX5_init 34 = .ok (.aload_n 0, 1) := by decide +kernel
theorem dX5_init_35 : decode cX5_init 35 = .ok (.iconst 0, 1) := by decide +kernel
theorem dX5_init_36 : decode cX5_init 36 = .ok (.putfield 29, 3) := by decide +kernel
theorem dX5_init_39 : decode cX5_init 39 = .ok (.aload_n 0, 1) := by decide +kernel
theorem dX5_init_40 : decode cX5_init 40 = .ok (.bipush 121, 2) := by decide +kernel
theorem dX5_init_42 : decode cX5_init 42 = .ok (.newarray .int, 2) := by decide +kernel
theorem dX5_init_44 : decode cX5_init 44 = .ok (.putfield 35, 3) := by decide +kernel
theorem dX5_init_47 : decode cX5_init 47 = .ok (.aload_n 0, 1) := by decide +kernel
theorem dX5_init_48 : decode cX5_init 48 = .ok (.bipush 121, 2) := by decide +kernel
theorem dX5_init_50 : decode cX5_init 50 = .ok (.newarray .boolean, 2) := by decide +kernel
theorem dX5_init_52 : decode cX5_init 52 = .ok (.putfield 38, 3) := by decide +kernel
theorem dX5_init_55 : decode cX5_init 55 = .ok (.aload_n 0, 1) := by decide +kernel
theorem dX5_init_56 : decode cX5_init 56 = .ok (.bipush 10, 2) := by decide +kernel
theorem dX5_init_58 : decode cX5_init 58 = .ok (.newarray .int, 2) := by decide +kernel
theorem dX5_init_60 : decode cX5_init 60 = .ok (.putfield 42, 3) := by decide +kernel
theorem dX5_init_63 : decode cX5_init 63 = .ok (.aload_n 0, 1) := by decide +kernel
theorem dX5_init_64 : decode cX5_init 64 = .ok (.iconst 0, 1) := by decide +kernel
theorem dX5_init_65 : decode cX5_init 65 = .ok (.putfield 45, 3) := by decide +kernel
theorem dX5_init_68 : decode cX5_init 68 = .ok (.aload_n 0, 1) := by decide +kernel
theorem dX5_init_69 : decode cX5_init 69 = .ok (.iconst 0, 1) := by decide +kernel
theorem dX5_init_70 : decode cX5_init 70 = .ok (.putfield 48, 3) := by decide +kernel
theorem dX5_init_73 : decode cX5_init 73 = .ok (.return_, 1) := by decide +kernel
theorem dX5_seek_0 : decode cX5_seek 0 = .ok (.aload_n 0, 1) := by decide +kernel
theorem dX5_seek_1 : decode cX5_seek 1 = .ok (.iconst 0, 1) := by decide +kernel
theorem dX5_seek_2 : decode cX5_seek 2 = .ok (.putfield 29, 3) := by decide +kernel
theorem dX5_seek_5 : decode cX5_seek 5 = .ok (.aload_n 0, 1) := by decide +kernel
theorem dX5_seek_6 : decode cX5_seek 6 = .ok (.iconst 0, 1) := by decide +kernel
theorem dX5_seek_7 : decode cX5_seek 7 = .ok (.putfield 48, 3) := by decide +kernel
theorem dX5_seek_10 : decode cX5_seek 10 = .ok (.iconst 0, 1) := by decide +kernel
theorem dX5_seek_11 : decode cX5_seek 11 = .ok (.istore_n 3, 1) := by decide +kernel
theorem dX5_seek_12 : decode cX5_seek 12 = .ok (.iload_n 3, 1) := by decide +kernel
theorem dX5_seek_13 : decode cX5_seek 13 = .ok (.aload_n 0, 1) := by decide +kernel
theorem dX5_seek_14 : decode cX5_seek 14 = .ok (.getfield 35, 3) := by decide +kernel
theorem dX5_seek_17 : decode cX5_seek 17 = .ok (.arraylength, 1) := by decide +kernel
theorem dX5_seek_18 : decode cX5_seek 18 = .ok (.if_icmp .ge 17, 3) := by decide +kernel
theorem dX5_seek_21 : decode cX5_seek 21 = .ok (.aload_n 0, 1) := by decide +kernel
theorem dX5_seek_22 : decode cX5_seek 22 = .ok (.getfield 35, 3) := by decide +kernel
theorem dX5_seek_25 : decode cX5_seek 25 = .ok (.iload_n 3, 1) := by decide +kernel
theorem dX5_seek_26 : decode cX5_seek 26 = .ok (.ldc 51, 2) := by decide +kernel
theorem dX5_seek_28 : decode cX5_seek 28 = .ok (.iastore, 1) := by decide +kernel
theorem dX5_seek_29 : decode cX5_seek 29 = .ok (.iinc 3 1, 3) := by decide +kernel
theorem dX5_seek_32 : decode cX5_seek 32 = .ok (.goto (-20), 3) := by decide +kernel
theorem dX5_seek_35 : decode cX5_seek 35 = .ok (.iconst 0, 1) := by decide +kernel
theorem dX5_seek_36 : decode cX5_seek 36 = .ok (.istore_n 3, 1) := by decide +kernel
theorem dX5_seek_37 : decode cX5_seek 37 = .ok (.iload_n 3, 1) := by decide +kernel
theorem dX5_seek_38 : decode cX5_seek 38 = .ok (.bipush 24, 2) := by decide +kernel
theorem dX5_seek_40 : decode cX5_seek 40 = .ok (.if_icmp .ge 110, 3) := by decide +kernel
theorem dX5_seek_43 : decode cX5_seek 43 = .ok (.aload_n 0, 1) := by decide +kernel
theorem dX5_seek_44 : decode cX5_seek 44 = .ok (.getfield 12, 3) := by decide +kernel
theorem dX5_seek_47 : decode cX5_seek 47 = .ok (.aload_n 1, 1) := by decide +kernel
theorem dX5_seek_48 : decode cX5_seek 48 = .ok (.iload_n 3, 1) := by decide +kernel
theorem dX5_seek_49 : decode cX5_seek 49 = .ok (.invokestatic 52, 3) := by decide +kernel
theorem dX5_seek_52 : decode cX5_seek 52 = .ok (.iload_n 3, 1) := by decide +kernel
theorem dX5_seek_53 : decode cX5_seek 53 = .ok (.invokestatic 56, 3) := by decide +kernel
theorem dX5_seek_56 : decode cX5_seek 56 = .ok (.iload_n 3, 1) := by decide +kernel
theorem dX5_seek_57 : decode cX5_seek 57 = .ok (.invokestatic 59, 3) := by decide +kernel
theorem dX5_seek_60 : decode cX5_seek 60 = .ok (.invokevirtual 62, 3) := by decide +kernel
theorem dX5_seek_63 : decode cX5_seek 63 = .ok (.iconst 0, 1) := by decide +kernel
theorem dX5_seek_64 : decode cX5_seek 64 = .ok (.istore 4, 2) := by decide +kernel
theorem dX5_seek_66 : decode cX5_seek 66 = .ok (.iload 4, 2) := by decide +kernel
theorem dX5_seek_68 : decode cX5_seek 68 = .ok (.aload_n 1, 1) := by decide +kernel
theorem dX5_seek_69 : decode cX5_seek 69 = .ok (.getfield 66, 3) := by decide +kernel
theorem dX5_seek_72 : decode cX5_seek 72 = .ok (.if_icmp .ge 72, 3) := by decide +kernel
theorem dX5_seek_75 : decode cX5_seek 75 = .ok (.iconst 0, 1) := by decide +kernel
theorem dX5_seek_76 : decode cX5_seek 76 = .ok (.istore 5, 2) := by decide +kernel
theorem dX5_seek_78 : decode cX5_seek 78 = .ok (.iload 5, 2) := by decide +kernel
theorem dX5_seek_80 : decode cX5_seek 80 = .ok (.aload_n 1, 1) := by decide +kernel
theorem dX5_seek_81 : decode cX5_seek 81 = .ok (.getfield 71, 3) := by decide +kernel
theorem dX5_seek_84 : decode cX5_seek 84 = .ok (.if_icmp .ge 54, 3) := by decide +kernel
theorem dX5_seek_87 : decode cX5_seek 87 = .ok (.aload_n 0, 1) := by decide +kernel
theorem dX5_seek_88 : decode cX5_seek 88 = .ok (.getfield 21, 3) := by decide +kernel
theorem dX5_seek_91 : decode cX5_seek 91 = .ok (.aload_n 2, 1) := by decide +kernel
theorem dX5_seek_92 : decode cX5_seek 92 = .ok (.aload_n 0, 1) := by decide +kernel
theorem dX5_seek_93 : decode cX5_seek 93 = .ok (.getfield 12, 3) := by decide +kernel
theorem dX5_seek_96 : decode cX5_seek 96 = .ok (.iload 5, 2) := by decide +kernel
theorem dX5_seek_98 : decode cX5_seek 98 = .ok (.iload 4, 2) := by decide +kernel
theorem dX5_seek_100 : decode cX5_seek 100 = .ok (.invokevirtual 74, 3) := by decide +kernel
theorem dX5_seek_103 : decode cX5_seek 103 = .ok (.ifCond .eq 29, 3) := by decide +kernel
theorem dX5_seek_106 : decode cX5_seek 106 = .ok (.iload 4, 2) := by decide +kernel
theorem dX5_seek_108 : decode cX5_seek 108 = .ok (.bipush 11, 2) := by decide +kernel
theorem dX5_seek_110 : decode cX5_seek 110 = .ok (.imul, 1) := by decide +kernel
theorem dX5_seek_111 : decode cX5_seek 111 = .ok (.iload 5, 2) := by decide +kernel
theorem dX5_seek_113 : decode cX5_seek 113 = .ok (.iadd, 1) := by decide +kernel
theorem dX5_seek_114 : decode cX5_seek 114 = .ok (.istore 6, 2) := by decide +kernel
theorem dX5_seek_116 : decode cX5_seek 116 = .ok (.aload_n 0, 1) := by decide +kernel
theorem dX5_seek_117 : decode cX5_seek 117 = .ok (.aload_n 0, 1) := by decide +kernel
theorem dX5_seek_118 : decode cX5_seek 118 = .ok (.getfield 21, 3) := by decide +kernel
theorem dX5_seek_121 : decode cX5_seek 121 = .ok (.iload_n 3, 1) := by decide +kernel
theorem dX5_seek_122 : decode cX5_seek 122 = .ok (.iload 6, 2) := by decide +kernel
theorem dX5_seek_124 : decode cX5_seek 124 = .ok (.invokestatic 78, 3) := by decide +kernel
theorem dX5_seek_127 : decode cX5_seek 127 = .ok (.iload 6, 2) := by decide +kernel
theorem dX5_seek_129 : decode cX5_seek 129 = .ok (.invokevirtual 82, 3) := by decide +kernel
theorem dX5_seek_132 : decode cX5_seek 132 = .ok (.iinc 5 1, 3) := by decide +kernel
theorem dX5_seek_135 : decode cX5_seek 135 = .ok (.goto (-57), 3) := by decide +kernel
theorem dX5_seek_138 : decode cX5_seek 138 = .ok (.iinc 4 1, 3) := by decide +kernel
theorem dX5_seek_141 : decode cX5_seek 141 = .ok (.goto (-75), 3) := by decide +kernel
theorem dX5_seek_144 : decode cX5_seek 144 = .ok (.iinc 3 1, 3) := by decide +kernel
theorem dX5_seek_147 : decode cX5_seek 147 = .ok (.goto (-110), 3) := by decide +kernel
theorem dX5_seek_150 : decode cX5_seek 150 = .ok (.return_, 1) := by decide +kernel
theorem dX5_enter_0 : decode cX5_enter 0 = .ok (.aload_n 0, 1) := by decide +kernel
theorem dX5_enter_1 : decode cX5_enter 1 = .ok (.getfield 35, 3) := by decide +kernel
theorem dX5_enter_4 : decode cX5_enter 4 = .ok (.iload_n 2, 1) := by decide +kernel
theorem dX5_enter_5 : decode cX5_enter 5 = .ok (.aload_n 0, 1) := by decide +kernel
theorem dX5_enter_6 : decode cX5_enter 6 = .ok (.getfield 35, 3) := by decide +kernel
theorem dX5_enter_9 : decode cX5_enter 9 = .ok (.iload_n 2, 1) := by decide +kernel
theorem dX5_enter_10 : decode cX5_enter 10 = .ok (.iaload, 1) := by decide +kernel
theorem dX5_enter_11 : decode cX5_enter 11 = .ok (.iload_n 1, 1) := by decide +kernel
theorem dX5_enter_12 : decode cX5_enter 12 = .ok (.invokestatic 86, 3) := by decide +kernel
theorem dX5_enter_15 : decode cX5_enter 15 = .ok (.iastore, 1) := by decide +kernel
theorem dX5_enter_16 : decode cX5_enter 16 = .ok (.aload_n 0, 1) := by decide +kernel
theorem dX5_enter_17 : decode cX5_enter 17 = .ok (.getfield 29, 3) := by decide +kernel
theorem dX5_enter_20 : decode cX5_enter 20 = .ok (.bipush 10, 2) := by decide +kernel
theorem dX5_enter_22 : decode cX5_enter 22 = .ok (.if_icmp .ne 15, 3) := by decide +kernel
theorem dX5_enter_25 : decode cX5_enter 25 = .ok (.iload_n 1, 1) := by decide +kernel
theorem dX5_enter_26 : decode cX5_enter 26 = .ok (.aload_n 0, 1) := by decide +kernel
theorem dX5_enter_27 : decode cX5_enter 27 = .ok (.getfield 25, 3) := by decide +kernel
theorem dX5_enter_30 : decode cX5_enter 30 = .ok (.bipush 9, 2) := by decide +kernel
theorem dX5_enter_32 : decode cX5_enter 32 = .ok (.iaload, 1) := by decide +kernel
theorem dX5_enter_33 : decode cX5_enter 33 = .ok (.if_icmp .le 4, 3) := by decide +kernel
theorem dX5_enter_36 : decode cX5_enter 36 = .ok (.return_, 1) := by decide +kernel
theorem dX5_enter_37 : decode cX5_enter 37 = .ok (.aload_n 0, 1) := by decide +kernel
theorem dX5_enter_38 : decode cX5_enter 38 = .ok (.getfield 29, 3) := by decide +kernel
theorem dX5_enter_41 : decode cX5_enter 41 = .ok (.bipush 9, 2) := by decide +kernel
theorem dX5_enter_43 : decode cX5_enter 43 = .ok (.invokestatic 86, 3) := by decide +kernel
theorem dX5_enter_46 : decode cX5_enter 46 = .ok (.istore_n 3, 1) := by decide +kernel
theorem dX5_enter_47 : decode cX5_enter 47 = .ok (.iload_n 3, 1) := by decide +kernel
theorem dX5_enter_48 : decode cX5_enter 48 = .ok (.ifCond .le 35, 3) := by decide +kernel
theorem dX5_enter_51 : decode cX5_enter 51 = .ok (.aload_n 0, 1) := by decide +kernel
theorem dX5_enter_52 : decode cX5_enter 52 = .ok (.getfield 25, 3) := by decide +kernel
theorem dX5_enter_55 : decode cX5_enter 55 = .ok (.iload_n 3, 1) := by decide +kernel
theorem dX5_enter_56 : decode cX5_enter 56 = .ok (.iconst 1, 1) := by decide +kernel
theorem dX5_enter_57 : decode cX5_enter 57 = .ok (.isub, 1) := by decide +kernel
theorem dX5_enter_58 : decode cX5_enter 58 = .ok (.iaload, 1) := by decide +kernel
theorem dX5_enter_59 : decode cX5_enter 59 = .ok (.iload_n 1, 1) := by decide +kernel
theorem dX5_enter_60 : decode cX5_enter 60 = .ok (.if_icmp .le 23, 3) := by decide +kernel
theorem dX5_enter_63 : decode cX5_enter 63 = .ok (.aload_n 0, 1) := by decide +kernel
theorem dX5_enter_64 : decode cX5_enter 64 = .ok (.getfield 25, 3) := by decide +kernel
theorem dX5_enter_67 : decode cX5_enter 67 = .ok (.iload_n 3, 1) := by decide +kernel
theorem dX5_enter_68 : decode cX5_enter 68 = .ok (.aload_n 0, 1) := by decide +kernel
theorem dX5_enter_69 : decode cX5_enter 69 = .ok (.getfield 25, 3) := by decide +kernel
theorem dX5_enter_72 : decode cX5_enter 72 = .ok (.iload_n 3, 1) := by decide +kernel
theorem dX5_enter_73 : decode cX5_enter 73 = .ok (.iconst 1, 1) := by decide +kernel
theorem dX5_enter_74 : decode cX5_enter 74 = .ok (.isub, 1) := by decide +kernel
theorem dX5_enter_75 : decode cX5_enter 75 = .ok (.iaload, 1) := by decide +kernel
theorem dX5_enter_76 : decode cX5_enter 76 = .ok (.iastore, 1) := by decide +kernel
theorem dX5_enter_77 : decode cX5_enter 77 = .ok (.iinc 3 (-1), 3) := by decide +kernel
theorem dX5_enter_80 : decode cX5_enter 80 = .ok (.goto (-33), 3) := by decide +kernel
theorem dX5_enter_83 : decode cX5_enter 83 = .ok (.aload_n 0, 1) := by decide +kernel
theorem dX5_enter_84 : decode cX5_enter 84 = .ok (.getfield 25, 3) := by decide +kernel
theorem dX5_enter_87 : decode cX5_enter 87 = .ok (.iload_n 3, 1) := by decide +kernel
theorem dX5_enter_88 : decode cX5_enter 88 = .ok (.iload_n 1, 1) := by decide +kernel
theorem dX5_enter_89 : decode cX5_enter 89 = .ok (.iastore, 1) := by decide +kernel
theorem dX5_enter_90 : decode cX5_enter 90 = .ok (.aload_n 0, 1) := by decide +kernel
theorem dX5_enter_91 : decode cX5_enter 91 = .ok (.aload_n 0, 1) := by decide +kernel
theorem dX5_enter_92 : decode cX5_enter 92 = .ok (.getfield 29, 3) := by decide +kernel
theorem dX5_enter_95 : decode cX5_enter 95 = .ok (.iconst 1, 1) := by decide +kernel
theorem dX5_enter_96 : decode cX5_enter 96 = .ok (.iadd, 1) := by decide +kernel
theorem dX5_enter_97 : decode cX5_enter 97 = .ok (.bipush 10, 2) := by decide +kernel
theorem dX5_enter_99 : decode cX5_enter 99 = .ok (.invokestatic 86, 3) := by decide +kernel
theorem dX5_enter_102 : decode cX5_enter 102 = .ok (.putfield 29, 3) := by decide +kernel
theorem dX5_enter_105 : decode cX5_enter 105 = .ok (.return_, 1) := by decide +kernel
theorem dX5_chooseApart_0 : decode cX5_chooseApart 0 = .ok (.aload_n 0, 1) := by decide +kernel
theorem dX5_chooseApart_1 : decode cX5_chooseApart 1 = .ok (.getfield 48, 3) := by decide +kernel
theorem dX5_chooseApart_4 : decode cX5_chooseApart 4 = .ok (.iload_n 1, 1) := by decide +kernel
theorem dX5_chooseApart_5 : decode cX5_chooseApart 5 = .ok (.if_icmp .ne 4, 3) := by decide +kernel
theorem dX5_chooseApart_8 : decode cX5_chooseApart 8 = .ok (.return_, 1) := by decide +kernel
theorem dX5_chooseApart_9 : decode cX5_chooseApart 9 = .ok (.aload_n 0, 1) := by decide +kernel
theorem dX5_chooseApart_10 : decode cX5_chooseApart 10 = .ok (.iload_n 1, 1) := by decide +kernel
theorem dX5_chooseApart_11 : decode cX5_chooseApart 11 = .ok (.putfield 48, 3) := by decide +kernel
theorem dX5_chooseApart_14 : decode cX5_chooseApart 14 = .ok (.aload_n 0, 1) := by decide +kernel
theorem dX5_chooseApart_15 : decode cX5_chooseApart 15 = .ok (.iconst 0, 1) := by decide +kernel
theorem dX5_chooseApart_16 : decode cX5_chooseApart 16 = .ok (.putfield 45, 3) := by decide +kernel
theorem dX5_chooseApart_19 : decode cX5_chooseApart 19 = .ok (.iconst 0, 1) := by decide +kernel
theorem dX5_chooseApart_20 : decode cX5_chooseApart 20 = .ok (.istore_n 2, 1) := by decide +kernel
theorem dX5_chooseApart_21 : decode cX5_chooseApart 21 = .ok (.iload_n 2, 1) := by decide +kernel
theorem dX5_chooseApart_22 : decode cX5_chooseApart 22 = .ok (.aload_n 0, 1) := by decide +kernel
theorem dX5_chooseApart_23 : decode cX5_chooseApart 23 = .ok (.getfield 38, 3) := by decide +kernel
theorem dX5_chooseApart_26 : decode cX5_chooseApart 26 = .ok (.arraylength, 1) := by decide +kernel
theorem dX5_chooseApart_27 : decode cX5_chooseApart 27 = .ok (.if_icmp .ge 16, 3) := by decide +kernel
theorem dX5_chooseApart_30 : decode cX5_chooseApart 30 = .ok (.aload_n 0, 1) := by decide +kernel
theorem dX5_chooseApart_31 : decode cX5_chooseApart 31 = .ok (.getfield 38, 3) := by decide +kernel
theorem dX5_chooseApart_34 : decode cX5_chooseApart 34 = .ok (.iload_n 2, 1) := by decide +kernel
theorem dX5_chooseApart_35 : decode cX5_chooseApart 35 = .ok (.iconst 1, 1) := by decide +kernel
theorem dX5_chooseApart_36 : decode cX5_chooseApart 36 = .ok (.bastore, 1) := by decide +kernel
theorem dX5_chooseApart_37 : decode cX5_chooseApart 37 = .ok (.iinc 2 1, 3) := by decide +kernel
theorem dX5_chooseApart_40 : decode cX5_chooseApart 40 = .ok (.goto (-19), 3) := by decide +kernel
theorem dX5_chooseApart_43 : decode cX5_chooseApart 43 = .ok (.iconst 0, 1) := by decide +kernel
theorem dX5_chooseApart_44 : decode cX5_chooseApart 44 = .ok (.istore_n 2, 1) := by decide +kernel
theorem dX5_chooseApart_45 : decode cX5_chooseApart 45 = .ok (.iload_n 2, 1) := by decide +kernel
theorem dX5_chooseApart_46 : decode cX5_chooseApart 46 = .ok (.bipush 10, 2) := by decide +kernel
theorem dX5_chooseApart_48 : decode cX5_chooseApart 48 = .ok (.if_icmp .ge 53, 3) := by decide +kernel
theorem dX5_chooseApart_51 : decode cX5_chooseApart 51 = .ok (.aload_n 0, 1) := by decide +kernel
theorem dX5_chooseApart_52 : decode cX5_chooseApart 52 = .ok (.invokevirtual 92, 3) := by decide +kernel
theorem dX5_chooseApart_55 : decode cX5_chooseApart 55 = .ok (.istore_n 3, 1) := by decide +kernel
theorem dX5_chooseApart_56 : decode cX5_chooseApart 56 = .ok (.iload_n 3, 1) := by decide +kernel
theorem dX5_chooseApart_57 : decode cX5_chooseApart 57 = .ok (.ldc 51, 2) := by decide +kernel
theorem dX5_chooseApart_59 : decode cX5_chooseApart 59 = .ok (.if_icmp .ne 4, 3) := by decide +kernel
theorem dX5_chooseApart_62 : decode cX5_chooseApart 62 = .ok (.return_, 1) := by decide +kernel
theorem dX5_chooseApart_63 : decode cX5_chooseApart 63 = .ok (.aload_n 0, 1) := by decide +kernel
theorem dX5_chooseApart_64 : decode cX5_chooseApart 64 = .ok (.getfield 42, 3) := by decide +kernel
theorem dX5_chooseApart_67 : decode cX5_chooseApart 67 = .ok (.iload_n 2, 1) := by decide +kernel
theorem dX5_chooseApart_68 : decode cX5_chooseApart 68 = .ok (.iload_n 3, 1) := by decide +kernel
theorem dX5_chooseApart_69 : decode cX5_chooseApart 69 = .ok (.iastore, 1) := by decide +kernel
theorem dX5_chooseApart_70 : decode cX5_chooseApart 70 = .ok (.aload_n 0, 1) := by decide +kernel
theorem dX5_chooseApart_71 : decode cX5_chooseApart 71 = .ok (.dup, 1) := by decide +kernel
theorem dX5_chooseApart_72 : decode cX5_chooseApart 72 = .ok (.getfield 45, 3) := by decide +kernel
theorem dX5_chooseApart_75 : decode cX5_chooseApart 75 = .ok (.iconst 1, 1) := by decide +kernel
theorem dX5_chooseApart_76 : decode cX5_chooseApart 76 = .ok (.iadd, 1) := by decide +kernel
theorem dX5_chooseApart_77 : decode cX5_chooseApart 77 = .ok (.putfield 45, 3) := by decide +kernel
theorem dX5_chooseApart_80 : decode cX5_chooseApart 80 = .ok (.aload_n 0, 1) := by decide +kernel
theorem dX5_chooseApart_81 : decode cX5_chooseApart 81 = .ok (.iload_n 3, 1) := by decide +kernel
theorem dX5_chooseApart_82 : decode cX5_chooseApart 82 = .ok (.iconst 0, 1) := by decide +kernel
theorem dX5_chooseApart_83 : decode cX5_chooseApart 83 = .ok (.invokestatic 96, 3) := by decide +kernel
theorem dX5_chooseApart_86 : decode cX5_chooseApart 86 = .ok (.iload_n 3, 1) := by decide +kernel
theorem dX5_chooseApart_87 : decode cX5_chooseApart 87 = .ok (.iconst 1, 1) := by decide +kernel
theorem dX5_chooseApart_88 : decode cX5_chooseApart 88 = .ok (.invokestatic 96, 3) := by decide +kernel
theorem dX5_chooseApart_91 : decode cX5_chooseApart 91 = .ok (.iload_n 1, 1) := by decide +kernel
theorem dX5_chooseApart_92 : decode cX5_chooseApart 92 = .ok (.invokevirtual 99, 3) := by decide +kernel
theorem dX5_chooseApart_95 : decode cX5_chooseApart 95 = .ok (.iinc 2 1, 3) := by decide +kernel
theorem dX5_chooseApart_98 : decode cX5_chooseApart 98 = .ok (.goto (-53), 3) := by decide +kernel
theorem dX5_chooseApart_101 : decode cX5_chooseApart 101 = .ok (.return_, 1) := by decide +kernel
theorem dX5_firstOpen_0 : decode cX5_firstOpen 0 = .ok (.ldc 51, 2) := by decide +kernel
theorem dX5_firstOpen_2 : decode cX5_firstOpen 2 = .ok (.istore_n 1, 1) := by decide +kernel
theorem dX5_firstOpen_3 : decode cX5_firstOpen 3 = .ok (.iconst 0, 1) := by decide +kernel
theorem dX5_firstOpen_4 : decode cX5_firstOpen 4 = .ok (.istore_n 2, 1) := by decide +kernel
theorem dX5_firstOpen_5 : decode cX5_firstOpen 5 = .ok (.iload_n 2, 1) := by decide +kernel
theorem dX5_firstOpen_6 : decode cX5_firstOpen 6 = .ok (.aload_n 0, 1) := by decide +kernel
theorem dX5_firstOpen_7 : decode cX5_firstOpen 7 = .ok (.getfield 38, 3) := by decide +kernel
theorem dX5_firstOpen_10 : decode cX5_firstOpen 10 = .ok (.arraylength, 1) := by decide +kernel
theorem dX5_firstOpen_11 : decode cX5_firstOpen 11 = .ok (.if_icmp .ge 29, 3) := by decide +kernel
theorem dX5_firstOpen_14 : decode cX5_firstOpen 14 = .ok (.aload_n 0, 1) := by decide +kernel
theorem dX5_firstOpen_15 : decode cX5_firstOpen 15 = .ok (.getfield 38, 3) := by decide +kernel
theorem dX5_firstOpen_18 : decode cX5_firstOpen 18 = .ok (.iload_n 2, 1) := by decide +kernel
theorem dX5_firstOpen_19 : decode cX5_firstOpen 19 = .ok (.baload, 1) := by decide +kernel
theorem dX5_firstOpen_20 : decode cX5_firstOpen 20 = .ok (.ifCond .eq 14, 3) := by decide +kernel
theorem dX5_firstOpen_23 : decode cX5_firstOpen 23 = .ok (.iload_n 1, 1) := by decide +kernel
theorem dX5_firstOpen_24 : decode cX5_firstOpen 24 = .ok (.aload_n 0, 1) := by decide +kernel
theorem dX5_firstOpen_25 : decode cX5_firstOpen 25 = .ok (.getfield 35, 3) := by decide +kernel
theorem dX5_firstOpen_28 : decode cX5_firstOpen 28 = .ok (.iload_n 2, 1) := by decide +kernel
theorem dX5_firstOpen_29 : decode cX5_firstOpen 29 = .ok (.iaload, 1) := by decide +kernel
theorem dX5_firstOpen_30 : decode cX5_firstOpen 30 = .ok (.invokestatic 86, 3) := by decide +kernel
theorem dX5_firstOpen_33 : decode cX5_firstOpen 33 = .ok (.istore_n 1, 1) := by decide +kernel
theorem dX5_firstOpen_34 : decode cX5_firstOpen 34 = .ok (.iinc 2 1, 3) := by decide +kernel
theorem dX5_firstOpen_37 : decode cX5_firstOpen 37 = .ok (.goto (-32), 3) := by decide +kernel
theorem dX5_firstOpen_40 : decode cX5_firstOpen 40 = .ok (.iload_n 1, 1) := by decide +kernel
theorem dX5_firstOpen_41 : decode cX5_firstOpen 41 = .ok (.ireturn, 1) := by decide +kernel
theorem dX5_closeAround_0 : decode cX5_closeAround 0 = .ok (.iconst 0, 1) := by decide +kernel
theorem dX5_closeAround_1 : decode cX5_closeAround 1 = .ok (.istore 4, 2) := by decide +kernel
theorem dX5_closeAround_3 : decode cX5_closeAround 3 = .ok (.iload 4, 2) := by decide +kernel
theorem dX5_closeAround_5 : decode cX5_closeAround 5 = .ok (.aload_n 0, 1) := by decide +kernel
theorem dX5_closeAround_6 : decode cX5_closeAround 6 = .ok (.getfield 38, 3) := by decide +kernel
theorem dX5_closeAround_9 : decode cX5_closeAround 9 = .ok (.arraylength, 1) := by decide +kernel
theorem dX5_closeAround_10 : decode cX5_closeAround 10 = .ok (.if_icmp .ge 50, 3) := by decide +kernel
theorem dX5_closeAround_13 : decode cX5_closeAround 13 = .ok (.iload 4, 2) := by decide +kernel
theorem dX5_closeAround_15 : decode cX5_closeAround 15 = .ok (.bipush 11, 2) := by decide +kernel
theorem dX5_closeAround_17 : decode cX5_closeAround 17 = .ok (.irem, 1) := by decide +kernel
theorem dX5_closeAround_18 : decode cX5_closeAround 18 = .ok (.iload_n 1, 1) := by decide +kernel
theorem dX5_closeAround_19 : decode cX5_closeAround 19 = .ok (.isub, 1) := by decide +kernel
theorem dX5_closeAround_20 : decode cX5_closeAround 20 = .ok (.invokestatic 103, 3) := by decide +kernel
theorem dX5_closeAround_23 : decode cX5_closeAround 23 = .ok (.istore 5, 2) := by decide +kernel
theorem dX5_closeAround_25 : decode cX5_closeAround 25 = .ok (.iload 4, 2) := by decide +kernel
theorem dX5_closeAround_27 : decode cX5_closeAround 27 = .ok (.bipush 11, 2) := by decide +kernel
theorem dX5_closeAround_29 : decode cX5_closeAround 29 = .ok (.idiv, 1) := by decide +kernel
theorem dX5_closeAround_30 : decode cX5_closeAround 30 = .ok (.iload_n 2, 1) := by decide +kernel
theorem dX5_closeAround_31 : decode cX5_closeAround 31 = .ok (.isub, 1) := by decide +kernel
theorem dX5_closeAround_32 : decode cX5_closeAround 32 = .ok (.invokestatic 103, 3) := by decide +kernel
theorem dX5_closeAround_35 : decode cX5_closeAround 35 = .ok (.istore 6, 2) := by decide +kernel
theorem dX5_closeAround_37 : decode cX5_closeAround 37 = .ok (.iload 5, 2) := by decide +kernel
theorem dX5_closeAround_39 : decode cX5_closeAround 39 = .ok (.iload 6, 2) := by decide +kernel
theorem dX5_closeAround_41 : decode cX5_closeAround 41 = .ok (.iadd, 1) := by decide +kernel
theorem dX5_closeAround_42 : decode cX5_closeAround 42 = .ok (.iload_n 3, 1) := by decide +kernel
theorem dX5_closeAround_43 : decode cX5_closeAround 43 = .ok (.if_icmp .ge 11, 3) := by decide +kernel
theorem dX5_closeAround_46 : decode cX5_closeAround 46 = .ok (.aload_n 0, 1) := by decide +kernel
theorem dX5_closeAround_47 : decode cX5_closeAround 47 = .ok (.getfield 38, 3) := by decide +kernel
theorem dX5_closeAround_50 : decode cX5_closeAround 50 = .ok (.iload 4, 2) := by decide +kernel
theorem dX5_closeAround_52 : decode cX5_closeAround 52 = .ok (.iconst 0, 1) := by decide +kernel
theorem dX5_closeAround_53 : decode cX5_closeAround 53 = .ok (.bastore, 1) := by decide +kernel
theorem dX5_closeAround_54 : decode cX5_closeAround 54 = .ok (.iinc 4 1, 3) := by decide +kernel
theorem dX5_closeAround_57 : decode cX5_closeAround 57 = .ok (.goto (-54), 3) := by decide +kernel
theorem dX5_closeAround_60 : decode cX5_closeAround 60 = .ok (.return_, 1) := by decide +kernel
theorem dX6_init_0 : decode cX6_init 0 = .ok (.aload_n 0, 1) := by decide +kernel
theorem dX6_init_1 : decode cX6_init 1 = .ok (.invokespecial 3, 3) := by decide +kernel
theorem dX6_init_4 : decode cX6_init 4 = .ok (.aload_n 0, 1) := by decide +kernel
theorem dX6_init_5 : decode cX6_init 5 = .ok (.new 9, 3) := by decide +kernel
theorem dX6_init_8 : decode cX6_init 8 = .ok (.dup, 1) := by decide +kernel
theorem dX6_init_9 : decode cX6_init 9 = .ok (.invokespecial 11, 3) := by decide +kernel
theorem dX6_init_12 : decode cX6_init 12 = .ok (.putfield 12, 3) := by decide +kernel
theorem dX6_init_15 : decode cX6_init 15 = .ok (.aload_n 0, 1) := by decide +kernel
theorem dX6_init_16 : decode cX6_init 16 = .ok (.iconst 0, 1) := by decide +kernel
theorem dX6_init_17 : decode cX6_init 17 = .ok (.putfield 18, 3) := by decide +kernel
theorem dX6_init_20 : decode cX6_init 20 = .ok (.aload_n 0, 1) := by decide +kernel
theorem dX6_init_21 : decode cX6_init 21 = .ok (.iconst 0, 1) := by decide +kernel
theorem dX6_init_22 : decode cX6_init 22 = .ok (.putfield 22, 3) := by decide +kernel
theorem dX6_init_25 : decode cX6_init 25 = .ok (.return_, 1) := by decide +kernel
theorem dX6_readAll_0 : decode cX6_readAll 0 = .ok (.aload_n 0, 1) := by decide +kernel
theorem dX6_readAll_1 : decode cX6_readAll 1 = .ok (.getfield 12, 3) := by decide +kernel
theorem dX6_readAll_4 : decode cX6_readAll 4 = .ok (.invokevirtual 26, 3) := by decide +kernel
end
section
theorem dX6_readAll_7 : decode cX6_readAll 7 = .ok (.aload_n 0, 1) := by decide +kernel
theorem dX6_readAll_8 : decode cX6_readAll 8 = .ok (.iconst 0, 1) := by decide +kernel
theorem dX6_readAll_9 : decode cX6_readAll 9 = .ok (.putfield 18, 3) := by decide +kernel
theorem dX6_readAll_12 : decode cX6_readAll 12 = .ok (.aload_n 0, 1) := by decide +kernel
theorem dX6_readAll_13 : decode cX6_readAll 13 = .ok (.iconst 0, 1) := by decide +kernel
theorem dX6_readAll_14 : decode cX6_readAll 14 = .ok (.putfield 22, 3) := by decide +kernel
theorem dX6_readAll_17 : decode cX6_readAll 17 = .ok (.iconst 0, 1) := by decide +kernel
theorem dX6_readAll_18 : decode cX6_readAll 18 = .ok (.istore_n 2, 1) := by decide +kernel
theorem dX6_readAll_19 : decode cX6_readAll 19 = .ok (.iconst 0, 1) := by decide +kernel
theorem dX6_readAll_20 : decode cX6_readAll 20 = .ok (.istore_n 3, 1) := by decide +kernel
theorem dX6_readAll_21 : decode cX6_readAll 21 = .ok (.iload_n 3, 1) := by decide +kernel
theorem dX6_readAll_22 : decode cX6_readAll 22 = .ok (.sipush 200, 3) := by decide +kernel
theorem dX6_readAll_25 : decode cX6_readAll 25 = .ok (.if_icmp .ge 37, 3) := by decide +kernel
theorem dX6_readAll_28 : decode cX6_readAll 28 = .ok (.iload_n 2, 1) := by decide +kernel
theorem dX6_readAll_29 : decode cX6_readAll 29 = .ok (.aload_n 1, 1) := by decide +kernel
theorem dX6_readAll_30 : decode cX6_readAll 30 = .ok (.getfield 29, 3) := by decide +kernel
theorem dX6_readAll_33 : decode cX6_readAll 33 = .ok (.if_icmp .ge 29, 3) := by decide +kernel
theorem dX6_readAll_36 : decode cX6_readAll 36 = .ok (.aload_n 0, 1) := by decide +kernel
theorem dX6_readAll_37 : decode cX6_readAll 37 = .ok (.aload_n 1, 1) := by decide +kernel
theorem dX6_readAll_38 : decode cX6_readAll 38 = .ok (.iload_n 2, 1) := by decide +kernel
theorem dX6_readAll_39 : decode cX6_readAll 39 = .ok (.invokevirtual 34, 3) := by decide +kernel
theorem dX6_readAll_42 : decode cX6_readAll 42 = .ok (.istore 4, 2) := by decide +kernel
theorem dX6_readAll_44 : decode cX6_readAll 44 = .ok (.iload 4, 2) := by decide +kernel
theorem dX6_readAll_46 : decode cX6_readAll 46 = .ok (.ifCond .ne 5, 3) := by decide +kernel
theorem dX6_readAll_49 : decode cX6_readAll 49 = .ok (.iload_n 2, 1) := by decide +kernel
theorem dX6_readAll_50 : decode cX6_readAll 50 = .ok (.ireturn, 1) := by decide +kernel
theorem dX6_readAll_51 : decode cX6_readAll 51 = .ok (.iload_n 2, 1) := by decide +kernel
theorem dX6_readAll_52 : decode cX6_readAll 52 = .ok (.iload 4, 2) := by decide +kernel
theorem dX6_readAll_54 : decode cX6_readAll 54 = .ok (.iadd, 1) := by decide +kernel
theorem dX6_readAll_55 : decode cX6_readAll 55 = .ok (.istore_n 2, 1) := by decide +kernel
theorem dX6_readAll_56 : decode cX6_readAll 56 = .ok (.iinc 3 1, 3) := by decide +kernel
theorem dX6_readAll_59 : decode cX6_readAll 59 = .ok (.goto (-38), 3) := by decide +kernel
theorem dX6_readAll_62 : decode cX6_readAll 62 = .ok (.bipush (-4), 2) := by decide +kernel
theorem dX6_readAll_64 : decode cX6_readAll 64 = .ok (.ireturn, 1) := by decide +kernel
theorem dX6_readItem_0 : decode cX6_readItem 0 = .ok (.aload_n 1, 1) := by decide +kernel
theorem dX6_readItem_1 : decode cX6_readItem 1 = .ok (.iload_n 2, 1) := by decide +kernel
theorem dX6_readItem_2 : decode cX6_readItem 2 = .ok (.invokevirtual 38, 3) := by decide +kernel
theorem dX6_readItem_5 : decode cX6_readItem 5 = .ok (.istore_n 3, 1) := by decide +kernel
theorem dX6_readItem_6 : decode cX6_readItem 6 = .ok (.aload_n 0, 1) := by decide +kernel
theorem dX6_readItem_7 : decode cX6_readItem 7 = .ok (.getfield 18, 3) := by decide +kernel
theorem dX6_readItem_10 : decode cX6_readItem 10 = .ok (.ifCond .ne 20, 3) := by decide +kernel
theorem dX6_readItem_13 : decode cX6_readItem 13 = .ok (.iload_n 3, 1) := by decide +kernel
theorem dX6_readItem_14 : decode cX6_readItem 14 = .ok (.bipush 103, 2) := by decide +kernel
theorem dX6_readItem_16 : decode cX6_readItem 16 = .ok (.if_icmp .ne 12, 3) := by decide +kernel
theorem dX6_readItem_19 : decode cX6_readItem 19 = .ok (.aload_n 0, 1) := by decide +kernel
theorem dX6_readItem_20 : decode cX6_readItem 20 = .ok (.aload_n 1, 1) := by decide +kernel
theorem dX6_readItem_21 : decode cX6_readItem 21 = .ok (.iload_n 2, 1) := by decide +kernel
theorem dX6_readItem_22 : decode cX6_readItem 22 = .ok (.invokevirtual 42, 3) := by decide +kernel
theorem dX6_readItem_25 : decode cX6_readItem 25 = .ok (.goto 4, 3) := by decide +kernel
theorem dX6_readItem_28 : decode cX6_readItem 28 = .ok (.iconst 0, 1) := by decide +kernel
theorem dX6_readItem_29 : decode cX6_readItem 29 = .ok (.ireturn, 1) := by decide +kernel
theorem dX6_readItem_30 : decode cX6_readItem 30 = .ok (.iload_n 3, 1) := by decide +kernel
theorem dX6_readItem_31 : decode cX6_readItem 31 = .ok (.lookupswitch 54 #[(100, 40), (109, 47), (114, 33)], 33) := by decide +kernel
theorem dX6_readItem_64 : decode cX6_readItem 64 = .ok (.aload_n 0, 1) := by decide +kernel
theorem dX6_readItem_65 : decode cX6_readItem 65 = .ok (.aload_n 1, 1) := by decide +kernel
theorem dX6_readItem_66 : decode cX6_readItem 66 = .ok (.iload_n 2, 1) := by decide +kernel
theorem dX6_readItem_67 : decode cX6_readItem 67 = .ok (.invokevirtual 45, 3) := by decide +kernel
theorem dX6_readItem_70 : decode cX6_readItem 70 = .ok (.ireturn, 1) := by decide +kernel
theorem dX6_readItem_71 : decode cX6_readItem 71 = .ok (.aload_n 0, 1) := by decide +kernel
theorem dX6_readItem_72 : decode cX6_readItem 72 = .ok (.aload_n 1, 1) := by decide +kernel
theorem dX6_readItem_73 : decode cX6_readItem 73 = .ok (.iload_n 2, 1) := by decide +kernel
theorem dX6_readItem_74 : decode cX6_readItem 74 = .ok (.invokevirtual 48, 3) := by decide +kernel
theorem dX6_readItem_77 : decode cX6_readItem 77 = .ok (.ireturn, 1) := by decide +kernel
theorem dX6_readItem_78 : decode cX6_readItem 78 = .ok (.aload_n 0, 1) := by decide +kernel
theorem dX6_readItem_79 : decode cX6_readItem 79 = .ok (.aload_n 1, 1) := by decide +kernel
theorem dX6_readItem_80 : decode cX6_readItem 80 = .ok (.iload_n 2, 1) := by decide +kernel
theorem dX6_readItem_81 : decode cX6_readItem 81 = .ok (.invokevirtual 51, 3) := by decide +kernel
theorem dX6_readItem_84 : decode cX6_readItem 84 = .ok (.ireturn, 1) := by decide +kernel
theorem dX6_readItem_85 : decode cX6_readItem 85 = .ok (.iconst 0, 1) := by decide +kernel
theorem dX6_readItem_86 : decode cX6_readItem 86 = .ok (.ireturn, 1) := by decide +kernel
theorem dX6_readGrid_0 : decode cX6_readGrid 0 = .ok (.aload_n 1, 1) := by decide +kernel
theorem dX6_readGrid_1 : decode cX6_readGrid 1 = .ok (.iload_n 2, 1) := by decide +kernel
theorem dX6_readGrid_2 : decode cX6_readGrid 2 = .ok (.iconst 1, 1) := by decide +kernel
theorem dX6_readGrid_3 : decode cX6_readGrid 3 = .ok (.iadd, 1) := by decide +kernel
theorem dX6_readGrid_4 : decode cX6_readGrid 4 = .ok (.invokevirtual 38, 3) := by decide +kernel
theorem dX6_readGrid_7 : decode cX6_readGrid 7 = .ok (.invokestatic 54, 3) := by decide +kernel
theorem dX6_readGrid_10 : decode cX6_readGrid 10 = .ok (.istore_n 3, 1) := by decide +kernel
theorem dX6_readGrid_11 : decode cX6_readGrid 11 = .ok (.aload_n 1, 1) := by decide +kernel
theorem dX6_readGrid_12 : decode cX6_readGrid 12 = .ok (.iload_n 2, 1) := by decide +kernel
theorem dX6_readGrid_13 : decode cX6_readGrid 13 = .ok (.iconst 2, 1) := by decide +kernel
theorem dX6_readGrid_14 : decode cX6_readGrid 14 = .ok (.iadd, 1) := by decide +kernel
theorem dX6_readGrid_15 : decode cX6_readGrid 15 = .ok (.invokevirtual 38, 3) := by decide +kernel
theorem dX6_readGrid_18 : decode cX6_readGrid 18 = .ok (.invokestatic 54, 3) := by decide +kernel
theorem dX6_readGrid_21 : decode cX6_readGrid 21 = .ok (.istore 4, 2) := by decide +kernel
theorem dX6_readGrid_23 : decode cX6_readGrid 23 = .ok (.iconst 4, 1) := by decide +kernel
theorem dX6_readGrid_24 : decode cX6_readGrid 24 = .ok (.iload_n 3, 1) := by decide +kernel
theorem dX6_readGrid_25 : decode cX6_readGrid 25 = .ok (.bipush 11, 2) := by decide +kernel
theorem dX6_readGrid_27 : decode cX6_readGrid 27 = .ok (.invokestatic 58, 3) := by decide +kernel
theorem dX6_readGrid_30 : decode cX6_readGrid 30 = .ok (.ifCond .eq 26, 3) := by decide +kernel
theorem dX6_readGrid_33 : decode cX6_readGrid 33 = .ok (.iconst 4, 1) := by decide +kernel
theorem dX6_readGrid_34 : decode cX6_readGrid 34 = .ok (.iload 4, 2) := by decide +kernel
theorem dX6_readGrid_36 : decode cX6_readGrid 36 = .ok (.bipush 11, 2) := by decide +kernel
theorem dX6_readGrid_38 : decode cX6_readGrid 38 = .ok (.invokestatic 58, 3) := by decide +kernel
theorem dX6_readGrid_41 : decode cX6_readGrid 41 = .ok (.ifCond .eq 15, 3) := by decide +kernel
theorem dX6_readGrid_44 : decode cX6_readGrid 44 = .ok (.aload_n 1, 1) := by decide +kernel
theorem dX6_readGrid_45 : decode cX6_readGrid 45 = .ok (.iload_n 2, 1) := by decide +kernel
theorem dX6_readGrid_46 : decode cX6_readGrid 46 = .ok (.iconst 3, 1) := by decide +kernel
theorem dX6_readGrid_47 : decode cX6_readGrid 47 = .ok (.iadd, 1) := by decide +kernel
theorem dX6_readGrid_48 : decode cX6_readGrid 48 = .ok (.invokevirtual 38, 3) := by decide +kernel
theorem dX6_readGrid_51 : decode cX6_readGrid 51 = .ok (.bipush 59, 2) := by decide +kernel
theorem dX6_readGrid_53 : decode cX6_readGrid 53 = .ok (.if_icmp .eq 5, 3) := by decide +kernel
theorem dX6_readGrid_56 : decode cX6_readGrid 56 = .ok (.iconst 0, 1) := by decide +kernel
theorem dX6_readGrid_57 : decode cX6_readGrid 57 = .ok (.ireturn, 1) := by decide +kernel
theorem dX6_readGrid_58 : decode cX6_readGrid 58 = .ok (.aload_n 0, 1) := by decide +kernel
theorem dX6_readGrid_59 : decode cX6_readGrid 59 = .ok (.getfield 12, 3) := by decide +kernel
theorem dX6_readGrid_62 : decode cX6_readGrid 62 = .ok (.iload_n 3, 1) := by decide +kernel
theorem dX6_readGrid_63 : decode cX6_readGrid 63 = .ok (.putfield 62, 3) := by decide +kernel
theorem dX6_readGrid_66 : decode cX6_readGrid 66 = .ok (.aload_n 0, 1) := by decide +kernel
theorem dX6_readGrid_67 : decode cX6_readGrid 67 = .ok (.getfield 12, 3) := by decide +kernel
theorem dX6_readGrid_70 : decode cX6_readGrid 70 = .ok (.iload 4, 2) := by decide +kernel
theorem dX6_readGrid_72 : decode cX6_readGrid 72 = .ok (.putfield 65, 3) := by decide +kernel
theorem dX6_readGrid_75 : decode cX6_readGrid 75 = .ok (.aload_n 0, 1) := by decide +kernel
theorem dX6_readGrid_76 : decode cX6_readGrid 76 = .ok (.iconst 1, 1) := by decide +kernel
theorem dX6_readGrid_77 : decode cX6_readGrid 77 = .ok (.putfield 18, 3) := by decide +kernel
theorem dX6_readGrid_80 : decode cX6_readGrid 80 = .ok (.iconst 4, 1) := by decide +kernel
theorem dX6_readGrid_81 : decode cX6_readGrid 81 = .ok (.ireturn, 1) := by decide +kernel
theorem dX6_readRow_0 : decode cX6_readRow 0 = .ok (.aload_n 0, 1) := by decide +kernel
theorem dX6_readRow_1 : decode cX6_readRow 1 = .ok (.getfield 22, 3) := by decide +kernel
theorem dX6_readRow_4 : decode cX6_readRow 4 = .ok (.aload_n 0, 1) := by decide +kernel
theorem dX6_readRow_5 : decode cX6_readRow 5 = .ok (.getfield 12, 3) := by decide +kernel
theorem dX6_readRow_8 : decode cX6_readRow 8 = .ok (.getfield 65, 3) := by decide +kernel
theorem dX6_readRow_11 : decode cX6_readRow 11 = .ok (.if_icmp .ge 12, 3) := by decide +kernel
theorem dX6_readRow_14 : decode cX6_readRow 14 = .ok (.aload_n 0, 1) := by decide +kernel
theorem dX6_readRow_15 : decode cX6_readRow 15 = .ok (.getfield 22, 3) := by decide +kernel
theorem dX6_readRow_18 : decode cX6_readRow 18 = .ok (.bipush 11, 2) := by decide +kernel
theorem dX6_readRow_20 : decode cX6_readRow 20 = .ok (.if_icmp .lt 5, 3) := by decide +kernel
theorem dX6_readRow_23 : decode cX6_readRow 23 = .ok (.iconst 0, 1) := by decide +kernel
theorem dX6_readRow_24 : decode cX6_readRow 24 = .ok (.ireturn, 1) := by decide +kernel
theorem dX6_readRow_25 : decode cX6_readRow 25 = .ok (.iconst 0, 1) := by decide +kernel
theorem dX6_readRow_26 : decode cX6_readRow 26 = .ok (.istore_n 3, 1) := by decide +kernel
theorem dX6_readRow_27 : decode cX6_readRow 27 = .ok (.iconst 0, 1) := by decide +kernel
theorem dX6_readRow_28 : decode cX6_readRow 28 = .ok (.istore 4, 2) := by decide +kernel
theorem dX6_readRow_30 : decode cX6_readRow 30 = .ok (.iload 4, 2) := by decide +kernel
theorem dX6_readRow_32 : decode cX6_readRow 32 = .ok (.aload_n 0, 1) := by decide +kernel
theorem dX6_readRow_33 : decode cX6_readRow 33 = .ok (.getfield 12, 3) := by decide +kernel
theorem dX6_readRow_36 : decode cX6_readRow 36 = .ok (.getfield 62, 3) := by decide +kernel
theorem dX6_readRow_39 : decode cX6_readRow 39 = .ok (.if_icmp .ge 47, 3) := by decide +kernel
theorem dX6_readRow_42 : decode cX6_readRow 42 = .ok (.aload_n 1, 1) := by decide +kernel
theorem dX6_readRow_43 : decode cX6_readRow 43 = .ok (.iload_n 2, 1) := by decide +kernel
theorem dX6_readRow_44 : decode cX6_readRow 44 = .ok (.iconst 1, 1) := by decide +kernel
theorem dX6_readRow_45 : decode cX6_readRow 45 = .ok (.iadd, 1) := by decide +kernel
theorem dX6_readRow_46 : decode cX6_readRow 46 = .ok (.iload 4, 2) := by decide +kernel
theorem dX6_readRow_48 : decode cX6_readRow 48 = .ok (.iadd, 1) := by decide +kernel
theorem dX6_readRow_49 : decode cX6_readRow 49 = .ok (.invokevirtual 38, 3) := by decide +kernel
theorem dX6_readRow_52 : decode cX6_readRow 52 = .ok (.istore 5, 2) := by decide +kernel
theorem dX6_readRow_54 : decode cX6_readRow 54 = .ok (.iload 5, 2) := by decide +kernel
theorem dX6_readRow_56 : decode cX6_readRow 56 = .ok (.bipush 35, 2) := by decide +kernel
theorem dX6_readRow_58 : decode cX6_readRow 58 = .ok (.if_icmp .ne 13, 3) := by decide +kernel
theorem dX6_readRow_61 : decode cX6_readRow 61 = .ok (.iload_n 3, 1) := by decide +kernel
theorem dX6_readRow_62 : decode cX6_readRow 62 = .ok (.iconst 1, 1) := by decide +kernel
theorem dX6_readRow_63 : decode cX6_readRow 63 = .ok (.iload 4, 2) := by decide +kernel
theorem dX6_readRow_65 : decode cX6_readRow 65 = .ok (.ishl, 1) := by decide +kernel
theorem dX6_readRow_66 : decode cX6_readRow 66 = .ok (.ior, 1) := by decide +kernel
theorem dX6_readRow_67 : decode cX6_readRow 67 = .ok (.istore_n 3, 1) := by decide +kernel
theorem dX6_readRow_68 : decode cX6_readRow 68 = .ok (.goto 12, 3) := by decide +kernel
theorem dX6_readRow_71 : decode cX6_readRow 71 = .ok (.iload 5, 2) := by decide +kernel
theorem dX6_readRow_73 : decode cX6_readRow 73 = .ok (.bipush 46, 2) := by decide +kernel
theorem dX6_readRow_75 : decode cX6_readRow 75 = .ok (.if_icmp .eq 5, 3) := by decide +kernel
theorem dX6_readRow_78 : decode cX6_readRow 78 = .ok (.iconst 0, 1) := by decide +kernel
theorem dX6_readRow_79 : decode cX6_readRow 79 = .ok (.ireturn, 1) := by decide +kernel
theorem dX6_readRow_80 : decode cX6_readRow 80 = .ok (.iinc 4 1, 3) := by decide +kernel
theorem dX6_readRow_83 : decode cX6_readRow 83 = .ok (.goto (-53), 3) := by decide +kernel
theorem dX6_readRow_86 : decode cX6_readRow 86 = .ok (.aload_n 1, 1) := by decide +kernel
theorem dX6_readRow_87 : decode cX6_readRow 87 = .ok (.iload_n 2, 1) := by decide +kernel
theorem dX6_readRow_88 : decode cX6_readRow 88 = .ok (.iconst 1, 1) := by decide +kernel
theorem dX6_readRow_89 : decode cX6_readRow 89 = .ok (.iadd, 1) := by decide +kernel
theorem dX6_readRow_90 : decode cX6_readRow 90 = .ok (.aload_n 0, 1) := by decide +kernel
theorem dX6_readRow_91 : decode cX6_readRow 91 = .ok (.getfield 12, 3) := by decide +kernel
theorem dX6_readRow_94 : decode cX6_readRow 94 = .ok (.getfield 62, 3) := by decide +kernel
theorem dX6_readRow_97 : decode cX6_readRow 97 = .ok (.iadd, 1) := by decide +kernel
theorem dX6_readRow_98 : decode cX6_readRow 98 = .ok (.invokevirtual 38, 3) := by decide +kernel
theorem dX6_readRow_101 : decode cX6_readRow 101 = .ok (.bipush 59, 2) := by decide +kernel
theorem dX6_readRow_103 : decode cX6_readRow 103 = .ok (.if_icmp .eq 5, 3) := by decide +kernel
theorem dX6_readRow_106 : decode cX6_readRow 106 = .ok (.iconst 0, 1) := by decide +kernel
theorem dX6_readRow_107 : decode cX6_readRow 107 = .ok (.ireturn, 1) := by decide +kernel
theorem dX6_readRow_108 : decode cX6_readRow 108 = .ok (.aload_n 0, 1) := by decide +kernel
theorem dX6_readRow_109 : decode cX6_readRow 109 = .ok (.getfield 12, 3) := by decide +kernel
theorem dX6_readRow_112 : decode cX6_readRow 112 = .ok (.getfield 68, 3) := by decide +kernel
theorem dX6_readRow_115 : decode cX6_readRow 115 = .ok (.aload_n 0, 1) := by decide +kernel
theorem dX6_readRow_116 : decode cX6_readRow 116 = .ok (.getfield 22, 3) := by decide +kernel
theorem dX6_readRow_119 : decode cX6_readRow 119 = .ok (.iload_n 3, 1) := by decide +kernel
theorem dX6_readRow_120 : decode cX6_readRow 120 = .ok (.iastore, 1) := by decide +kernel
theorem dX6_readRow_121 : decode cX6_readRow 121 = .ok (.aload_n 0, 1) := by decide +kernel
theorem dX6_readRow_122 : decode cX6_readRow 122 = .ok (.dup, 1) := by decide +kernel
theorem dX6_readRow_123 : decode cX6_readRow 123 = .ok (.getfield 22, 3) := by decide +kernel
theorem dX6_readRow_126 : decode cX6_readRow 126 = .ok (.iconst 1, 1) := by decide +kernel
theorem dX6_readRow_127 : decode cX6_readRow 127 = .ok (.iadd, 1) := by decide +kernel
theorem dX6_readRow_128 : decode cX6_readRow 128 = .ok (.putfield 22, 3) := by decide +kernel
theorem dX6_readRow_131 : decode cX6_readRow 131 = .ok (.aload_n 0, 1) := by decide +kernel
theorem dX6_readRow_132 : decode cX6_readRow 132 = .ok (.getfield 12, 3) := by decide +kernel
theorem dX6_readRow_135 : decode cX6_readRow 135 = .ok (.getfield 62, 3) := by decide +kernel
theorem dX6_readRow_138 : decode cX6_readRow 138 = .ok (.iconst 2, 1) := by decide +kernel
theorem dX6_readRow_139 : decode cX6_readRow 139 = .ok (.iadd, 1) := by decide +kernel
theorem dX6_readRow_140 : decode cX6_readRow 140 = .ok (.ireturn, 1) := by decide +kernel
theorem dX6_readDot_0 : decode cX6_readDot 0 = .ok (.aload_n 1, 1) := by decide +kernel
theorem dX6_readDot_1 : decode cX6_readDot 1 = .ok (.iload_n 2, 1) := by decide +kernel
theorem dX6_readDot_2 : decode cX6_readDot 2 = .ok (.iconst 1, 1) := by decide +kernel
theorem dX6_readDot_3 : decode cX6_readDot 3 = .ok (.iadd, 1) := by decide +kernel
theorem dX6_readDot_4 : decode cX6_readDot 4 = .ok (.invokevirtual 38, 3) := by decide +kernel
theorem dX6_readDot_7 : decode cX6_readDot 7 = .ok (.bipush 97, 2) := by decide +kernel
theorem dX6_readDot_9 : decode cX6_readDot 9 = .ok (.isub, 1) := by decide +kernel
theorem dX6_readDot_10 : decode cX6_readDot 10 = .ok (.iconst 5, 1) := by decide +kernel
theorem dX6_readDot_11 : decode cX6_readDot 11 = .ok (.isub, 1) := by decide +kernel
theorem dX6_readDot_12 : decode cX6_readDot 12 = .ok (.istore_n 3, 1) := by decide +kernel
theorem dX6_readDot_13 : decode cX6_readDot 13 = .ok (.aload_n 1, 1) := by decide +kernel
theorem dX6_readDot_14 : decode cX6_readDot 14 = .ok (.iload_n 2, 1) := by decide +kernel
theorem dX6_readDot_15 : decode cX6_readDot 15 = .ok (.iconst 2, 1) := by decide +kernel
theorem dX6_readDot_16 : decode cX6_readDot 16 = .ok (.iadd, 1) := by decide +kernel
theorem dX6_readDot_17 : decode cX6_readDot 17 = .ok (.invokevirtual 38, 3) := by decide +kernel
theorem dX6_readDot_20 : decode cX6_readDot 20 = .ok (.bipush 97, 2) := by decide +kernel
theorem dX6_readDot_22 : decode cX6_readDot 22 = .ok (.isub, 1) := by decide +kernel
theorem dX6_readDot_23 : decode cX6_readDot 23 = .ok (.iconst 5, 1) := by decide +kernel
theorem dX6_readDot_24 : decode cX6_readDot 24 = .ok (.isub, 1) := by decide +kernel
theorem dX6_readDot_25 : decode cX6_readDot 25 = .ok (.istore 4, 2) := by decide +kernel
theorem dX6_readDot_27 : decode cX6_readDot 27 = .ok (.bipush (-5), 2) := by decide +kernel
theorem dX6_readDot_29 : decode cX6_readDot 29 = .ok (.iload_n 3, 1) := by decide +kernel
theorem dX6_readDot_30 : decode cX6_readDot 30 = .ok (.iconst 5, 1) := by decide +kernel
theorem dX6_readDot_31 : decode cX6_readDot 31 = .ok (.invokestatic 58, 3) := by decide +kernel
theorem dX6_readDot_34 : decode cX6_readDot 34 = .ok (.ifCond .eq 51, 3) := by decide +kernel
theorem dX6_readDot_37 : decode cX6_readDot 37 = .ok (.bipush (-5), 2) := by decide +kernel
theorem dX6_readDot_39 : decode cX6_readDot 39 = .ok (.iload 4, 2) := by decide +kernel
theorem dX6_readDot_41 : decode cX6_readDot 41 = .ok (.iconst 5, 1) := by decide +kernel
theorem dX6_readDot_42 : decode cX6_readDot 42 = .ok (.invokestatic 58, 3) := by decide +kernel
theorem dX6_readDot_45 : decode cX6_readDot 45 = .ok (.ifCond .eq 40, 3) := by decide +kernel
theorem dX6_readDot_48 : decode cX6_readDot 48 = .ok (.aload_n 1, 1) := by decide +kernel
theorem dX6_readDot_49 : decode cX6_readDot 49 = .ok (.iload_n 2, 1) := by decide +kernel
theorem dX6_readDot_50 : decode cX6_readDot 50 = .ok (.iconst 3, 1) := by decide +kernel
theorem dX6_readDot_51 : decode cX6_readDot 51 = .ok (.iadd, 1) := by decide +kernel
theorem dX6_readDot_52 : decode cX6_readDot 52 = .ok (.invokevirtual 38, 3) := by decide +kernel
theorem dX6_readDot_55 : decode cX6_readDot 55 = .ok (.bipush 59, 2) := by decide +kernel
theorem dX6_readDot_57 : decode cX6_readDot 57 = .ok (.if_icmp .ne 28, 3) := by decide +kernel
theorem dX6_readDot_60 : decode cX6_readDot 60 = .ok (.aload_n 0, 1) := by decide +kernel
theorem dX6_readDot_61 : decode cX6_readDot 61 = .ok (.getfield 12, 3) := by decide +kernel
theorem dX6_readDot_64 : decode cX6_readDot 64 = .ok (.getfield 72, 3) := by decide +kernel
theorem dX6_readDot_67 : decode cX6_readDot 67 = .ok (.bipush 10, 2) := by decide +kernel
theorem dX6_readDot_69 : decode cX6_readDot 69 = .ok (.if_icmp .ge 16, 3) := by decide +kernel
theorem dX6_readDot_72 : decode cX6_readDot 72 = .ok (.aload_n 0, 1) := by decide +kernel
theorem dX6_readDot_73 : decode cX6_readDot 73 = .ok (.getfield 12, 3) := by decide +kernel
theorem dX6_readDot_76 : decode cX6_readDot 76 = .ok (.iload_n 3, 1) := by decide +kernel
theorem dX6_readDot_77 : decode cX6_readDot 77 = .ok (.iload 4, 2) := by decide +kernel
theorem dX6_readDot_79 : decode cX6_readDot 79 = .ok (.invokevirtual 75, 3) := by decide +kernel
theorem dX6_readDot_82 : decode cX6_readDot 82 = .ok (.ifCond .eq 5, 3) := by decide +kernel
theorem dX6_readDot_85 : decode cX6_readDot 85 = .ok (.iconst 0, 1) := by decide +kernel
theorem dX6_readDot_86 : decode cX6_readDot 86 = .ok (.ireturn, 1) := by decide +kernel
theorem dX6_readDot_87 : decode cX6_readDot 87 = .ok (.aload_n 0, 1) := by decide +kernel
theorem dX6_readDot_88 : decode cX6_readDot 88 = .ok (.getfield 12, 3) := by decide +kernel
theorem dX6_readDot_91 : decode cX6_readDot 91 = .ok (.iload_n 3, 1) := by decide +kernel
theorem dX6_readDot_92 : decode cX6_readDot 92 = .ok (.iload 4, 2) := by decide +kernel
theorem dX6_readDot_94 : decode cX6_readDot 94 = .ok (.invokevirtual 79, 3) := by decide +kernel
theorem dX6_readDot_97 : decode cX6_readDot 97 = .ok (.iconst 4, 1) := by decide +kernel
theorem dX6_readDot_98 : decode cX6_readDot 98 = .ok (.ireturn, 1) := by decide +kernel
theorem dX6_readMetric_0 : decode cX6_readMetric 0 = .ok (.aload_n 1, 1) := by decide +kernel
theorem dX6_readMetric_1 : decode cX6_readMetric 1 = .ok (.iload_n 2, 1) := by decide +kernel
theorem dX6_readMetric_2 : decode cX6_readMetric 2 = .ok (.iconst 1, 1) := by decide +kernel
theorem dX6_readMetric_3 : decode cX6_readMetric 3 = .ok (.iadd, 1) := by decide +kernel
theorem dX6_readMetric_4 : decode cX6_readMetric 4 = .ok (.invokevirtual 38, 3) := by decide +kernel
theorem dX6_readMetric_7 : decode cX6_readMetric 7 = .ok (.bipush 48, 2) := by decide +kernel
theorem dX6_readMetric_9 : decode cX6_readMetric 9 = .ok (.isub, 1) := by decide +kernel
theorem dX6_readMetric_10 : decode cX6_readMetric 10 = .ok (.istore_n 3, 1) := by decide +kernel
theorem dX6_readMetric_11 : decode cX6_readMetric 11 = .ok (.aload_n 1, 1) := by decide +kernel
theorem dX6_readMetric_12 : decode cX6_readMetric 12 = .ok (.iload_n 2, 1) := by decide +kernel
theorem dX6_readMetric_13 : decode cX6_readMetric 13 = .ok (.iconst 2, 1) := by decide +kernel
theorem dX6_readMetric_14 : decode cX6_readMetric 14 = .ok (.iadd, 1) := by decide +kernel
theorem dX6_readMetric_15 : decode cX6_readMetric 15 = .ok (.invokevirtual 38, 3) := by decide +kernel
theorem dX6_readMetric_18 : decode cX6_readMetric 18 = .ok (.bipush 48, 2) := by decide +kernel
theorem dX6_readMetric_20 : decode cX6_readMetric 20 = .ok (.isub, 1) := by decide +kernel
theorem dX6_readMetric_21 : decode cX6_readMetric 21 = .ok (.istore 4, 2) := by decide +kernel
theorem dX6_readMetric_23 : decode cX6_readMetric 23 = .ok (.aload_n 1, 1) := by decide +kernel
theorem dX6_readMetric_24 : decode cX6_readMetric 24 = .ok (.iload_n 2, 1) := by decide +kernel
theorem dX6_readMetric_25 : decode cX6_readMetric 25 = .ok (.iconst 3, 1) := by decide +kernel
theorem dX6_readMetric_26 : decode cX6_readMetric 26 = .ok (.iadd, 1) := by decide +kernel
theorem dX6_readMetric_27 : decode cX6_readMetric 27 = .ok (.invokevirtual 38, 3) := by decide +kernel
theorem dX6_readMetric_30 : decode cX6_readMetric 30 = .ok (.bipush 48, 2) := by decide +kernel
theorem dX6_readMetric_32 : decode cX6_readMetric 32 = .ok (.isub, 1) := by decide +kernel
theorem dX6_readMetric_33 : decode cX6_readMetric 33 = .ok (.istore 5, 2) := by decide +kernel
theorem dX6_readMetric_35 : decode cX6_readMetric 35 = .ok (.iconst 0, 1) := by decide +kernel
theorem dX6_readMetric_36 : decode cX6_readMetric 36 = .ok (.iload_n 3, 1) := by decide +kernel
theorem dX6_readMetric_37 : decode cX6_readMetric 37 = .ok (.iconst 2, 1) := by decide +kernel
theorem dX6_readMetric_38 : decode cX6_readMetric 38 = .ok (.invokestatic 58, 3) := by decide +kernel
theorem dX6_readMetric_41 : decode cX6_readMetric 41 = .ok (.ifCond .eq 45, 3) := by decide +kernel
theorem dX6_readMetric_44 : decode cX6_readMetric 44 = .ok (.iconst 0, 1) := by decide +kernel
theorem dX6_readMetric_45 : decode cX6_readMetric 45 = .ok (.iload 4, 2) := by decide +kernel
theorem dX6_readMetric_47 : decode cX6_readMetric 47 = .ok (.bipush 9, 2) := by decide +kernel
theorem dX6_readMetric_49 : decode cX6_readMetric 49 = .ok (.invokestatic 58, 3) := by decide +kernel
theorem dX6_readMetric_52 : decode cX6_readMetric 52 = .ok (.ifCond .eq 34, 3) := by decide +kernel
theorem dX6_readMetric_55 : decode cX6_readMetric 55 = .ok (.iconst 0, 1) := by decide +kernel
theorem dX6_readMetric_56 : decode cX6_readMetric 56 = .ok (.iload 5, 2) := by decide +kernel
theorem dX6_readMetric_58 : decode cX6_readMetric 58 = .ok (.bipush 9, 2) := by decide +kernel
theorem dX6_readMetric_60 : decode cX6_readMetric 60 = .ok (.invokestatic 58, 3) := by decide +kernel
theorem dX6_readMetric_63 : decode cX6_readMetric 63 = .ok (.ifCond .eq 23, 3) := by decide +kernel
theorem dX6_readMetric_66 : decode cX6_readMetric 66 = .ok (.iload 4, 2) := by decide +kernel
theorem dX6_readMetric_68 : decode cX6_readMetric 68 = .ok (.iload 5, 2) := by decide +kernel
theorem dX6_readMetric_70 : decode cX6_readMetric 70 = .ok (.iadd, 1) := by decide +kernel
theorem dX6_readMetric_71 : decode cX6_readMetric 71 = .ok (.ifCond .eq 15, 3) := by decide +kernel
theorem dX6_readMetric_74 : decode cX6_readMetric 74 = .ok (.aload_n 1, 1) := by decide +kernel
theorem dX6_readMetric_75 : decode cX6_readMetric 75 = .ok (.iload_n 2, 1) := by decide +kernel
theorem dX6_readMetric_76 : decode cX6_readMetric 76 = .ok (.iconst 4, 1) := by decide +kernel
theorem dX6_readMetric_77 : decode cX6_readMetric 77 = .ok (.iadd, 1) := by decide +kernel
theorem dX6_readMetric_78 : decode cX6_readMetric 78 = .ok (.invokevirtual 38, 3) := by decide +kernel
theorem dX6_readMetric_81 : decode cX6_readMetric 81 = .ok (.bipush 59, 2) := by decide +kernel
theorem dX6_readMetric_83 : decode cX6_readMetric 83 = .ok (.if_icmp .eq 5, 3) := by decide +kernel
theorem dX6_readMetric_86 : decode cX6_readMetric 86 = .ok (.iconst 0, 1) := by decide +kernel
theorem dX6_readMetric_87 : decode cX6_readMetric 87 = .ok (.ireturn, 1) := by decide +kernel
theorem dX6_readMetric_88 : decode cX6_readMetric 88 = .ok (.aload_n 0, 1) := by decide +kernel
theorem dX6_readMetric_89 : decode cX6_readMetric 89 = .ok (.getfield 12, 3) := by decide +kernel
theorem dX6_readMetric_92 : decode cX6_readMetric 92 = .ok (.iload_n 3, 1) := by decide +kernel
theorem dX6_readMetric_93 : decode cX6_readMetric 93 = .ok (.putfield 83, 3) := by decide +kernel
theorem dX6_readMetric_96 : decode cX6_readMetric 96 = .ok (.aload_n 0, 1) := by decide +kernel
theorem dX6_readMetric_97 : decode cX6_readMetric 97 = .ok (.getfield 12, 3) := by decide +kernel
theorem dX6_readMetric_100 : decode cX6_readMetric 100 = .ok (.bipush 10, 2) := by decide +kernel
theorem dX6_readMetric_102 : decode cX6_readMetric 102 = .ok (.iload 4, 2) := by decide +kernel
theorem dX6_readMetric_104 : decode cX6_readMetric 104 = .ok (.imul, 1) := by decide +kernel
theorem dX6_readMetric_105 : decode cX6_readMetric 105 = .ok (.iload 5, 2) := by decide +kernel
theorem dX6_readMetric_107 : decode cX6_readMetric 107 = .ok (.iadd, 1) := by decide +kernel
theorem dX6_readMetric_108 : decode cX6_readMetric 108 = .ok (.putfield 86, 3) := by decide +kernel
theorem dX6_readMetric_111 : decode cX6_readMetric 111 = .ok (.iconst 5, 1) := by decide +kernel
theorem dX6_readMetric_112 : decode cX6_readMetric 112 = .ok (.ireturn, 1) := by decide +kernel
theorem dX6_sideOf_0 : decode cX6_sideOf 0 = .ok (.iload_n 0, 1) := by decide +kernel
theorem dX6_sideOf_1 : decode cX6_sideOf 1 = .ok (.bipush 97, 2) := by decide +kernel
theorem dX6_sideOf_3 : decode cX6_sideOf 3 = .ok (.if_icmp .eq 9, 3) := by decide +kernel
theorem dX6_sideOf_6 : decode cX6_sideOf 6 = .ok (.iload_n 0, 1) := by decide +kernel
theorem dX6_sideOf_7 : decode cX6_sideOf 7 = .ok (.bipush 98, 2) := by decide +kernel
theorem dX6_sideOf_9 : decode cX6_sideOf 9 = .ok (.if_icmp .ne 11, 3) := by decide +kernel
theorem dX6_sideOf_12 : decode cX6_sideOf 12 = .ok (.iload_n 0, 1) := by decide +kernel
theorem dX6_sideOf_13 : decode cX6_sideOf 13 = .ok (.bipush 97, 2) := by decide +kernel
theorem dX6_sideOf_15 : decode cX6_sideOf 15 = .ok (.isub, 1) := by decide +kernel
theorem dX6_sideOf_16 : decode cX6_sideOf 16 = .ok (.bipush 10, 2) := by decide +kernel
theorem dX6_sideOf_18 : decode cX6_sideOf 18 = .ok (.iadd, 1) := by decide +kernel
theorem dX6_sideOf_19 : decode cX6_sideOf 19 = .ok (.ireturn, 1) := by decide +kernel
theorem dX6_sideOf_20 : decode cX6_sideOf 20 = .ok (.iload_n 0, 1) := by decide +kernel
theorem dX6_sideOf_21 : decode cX6_sideOf 21 = .ok (.bipush 48, 2) := by decide +kernel
theorem dX6_sideOf_23 : decode cX6_sideOf 23 = .ok (.isub, 1) := by decide +kernel
theorem dX6_sideOf_24 : decode cX6_sideOf 24 = .ok (.bipush 9, 2) := by decide +kernel
theorem dX6_sideOf_26 : decode cX6_sideOf 26 = .ok (.if_icmp .gt 10, 3) := by decide +kernel
theorem dX6_sideOf_29 : decode cX6_sideOf 29 = .ok (.iload_n 0, 1) := by decide +kernel
theorem dX6_sideOf_30 : decode cX6_sideOf 30 = .ok (.bipush 48, 2) := by decide +kernel
theorem dX6_sideOf_32 : decode cX6_sideOf 32 = .ok (.isub, 1) := by decide +kernel
theorem dX6_sideOf_33 : decode cX6_sideOf 33 = .ok (.goto 4, 3) := by decide +kernel
theorem dX6_sideOf_36 : decode cX6_sideOf 36 = .ok (.iconst (-1), 1) := by decide +kernel
theorem dX6_sideOf_37 : decode cX6_sideOf 37 = .ok (.ireturn, 1) := by decide +kernel
theorem dX7_init_0 : decode cX7_init 0 = .ok (.aload_n 0, 1) := by decide +kernel
theorem dX7_init_1 : decode cX7_init 1 = .ok (.invokespecial 3, 3) := by decide +kernel
theorem dX7_init_4 : decode cX7_init 4 = .ok (.aload_n 0, 1) := by decide +kernel
theorem dX7_init_5 : decode cX7_init 5 = .ok (.iconst 4, 1) := by decide +kernel
theorem dX7_init_6 : decode cX7_init 6 = .ok (.putfield 9, 3) := by decide +kernel
theorem dX7_init_9 : decode cX7_init 9 = .ok (.aload_n 0, 1) := by decide +kernel
theorem dX7_init_10 : decode cX7_init 10 = .ok (.iconst 4, 1) := by decide +kernel
theorem dX7_init_11 : decode cX7_init 11 = .ok (.putfield 15, 3) := by decide +kernel
theorem dX7_init_14 : decode cX7_init 14 = .ok (.aload_n 0, 1) := by decide +kernel
theorem dX7_init_15 : decode cX7_init 15 = .ok (.bipush 11, 2) := by decide +kernel
theorem dX7_init_17 : decode cX7_init 17 = .ok (.newarray .int, 2) := by decide +kernel
theorem dX7_init_19 : decode cX7_init 19 = .ok (.putfield 18, 3) := by decide +kernel
theorem dX7_init_22 : decode cX7_init 22 = .ok (.aload_n 0, 1) := by decide +kernel
theorem dX7_init_23 : decode cX7_init 23 = .ok (.bipush 10, 2) := by decide +kernel
theorem dX7_init_25 : decode cX7_init 25 = .ok (.newarray .int, 2) := by decide +kernel
theorem dX7_init_27 : decode cX7_init 27 = .ok (.putfield 22, 3) := by decide +kernel
theorem dX7_init_30 : decode cX7_init 30 = .ok (.aload_n 0, 1) := by decide +kernel
theorem dX7_init_31 : decode cX7_init 31 = .ok (.bipush 10, 2) := by decide +kernel
theorem dX7_init_33 : decode cX7_init 33 = .ok (.newarray .int, 2) := by decide +kernel
theorem dX7_init_35 : decode cX7_init 35 = .ok (.putfield 25, 3) := by decide +kernel
theorem dX7_init_38 : decode cX7_init 38 = .ok (.aload_n 0, 1) := by decide +kernel
theorem dX7_init_39 : decode cX7_init 39 = .ok (.iconst 0, 1) := by decide +kernel
theorem dX7_init_40 : decode cX7_init 40 = .ok (.putfield 28, 3) := by decide +kernel
theorem dX7_init_43 : decode cX7_init 43 = .ok (.aload_n 0, 1) := by decide +kernel
theorem dX7_init_44 : decode cX7_init 44 = .ok (.iconst 0, 1) := by decide +kernel
theorem dX7_init_45 : decode cX7_init 45 = .ok (.putfield 31, 3) := by decide +kernel
theorem dX7_init_48 : decode cX7_init 48 = .ok (.aload_n 0, 1) := by decide +kernel
theorem dX7_init_49 : decode cX7_init 49 = .ok (.bipush 99, 2) := by decide +kernel
theorem dX7_init_51 : decode cX7_init 51 = .ok (.putfield 34, 3) := by decide +kernel
theorem dX7_init_54 : decode cX7_init 54 = .ok (.return_, 1) := by decide +kernel
theorem dX7_clear_0 : decode cX7_clear 0 = .ok (.aload_n 0, 1) := by decide +kernel
theorem dX7_clear_1 : decode cX7_clear 1 = .ok (.iconst 4, 1) := by decide +kernel
theorem dX7_clear_2 : decode cX7_clear 2 = .ok (.putfield 9, 3) := by decide +kernel
theorem dX7_clear_5 : decode cX7_clear 5 = .ok (.aload_n 0, 1) := by decide +kernel
theorem dX7_clear_6 : decode cX7_clear 6 = .ok (.iconst 4, 1) := by decide +kernel
theorem dX7_clear_7 : decode cX7_clear 7 = .ok (.putfield 15, 3) := by decide +kernel
theorem dX7_clear_10 : decode cX7_clear 10 = .ok (.iconst 0, 1) := by decide +kernel
theorem dX7_clear_11 : decode cX7_clear 11 = .ok (.istore_n 1, 1) := by decide +kernel
theorem dX7_clear_12 : decode cX7_clear 12 = .ok (.iload_n 1, 1) := by decide +kernel
theorem dX7_clear_13 : decode cX7_clear 13 = .ok (.aload_n 0, 1) := by decide +kernel
theorem dX7_clear_14 : decode cX7_clear 14 = .ok (.getfield 18, 3) := by decide +kernel
theorem dX7_clear_17 : decode cX7_clear 17 = .ok (.arraylength, 1) := by decide +kernel
theorem dX7_clear_18 : decode cX7_clear 18 = .ok (.if_icmp .ge 16, 3) := by decide +kernel
theorem dX7_clear_21 : decode cX7_clear 21 = .ok (.aload_n 0, 1) := by decide +kernel
theorem dX7_clear_22 : decode cX7_clear 22 = .ok (.getfield 18, 3) := by decide +kernel
theorem dX7_clear_25 : decode cX7_clear 25 = .ok (.iload_n 1, 1) := by decide +kernel
theorem dX7_clear_26 : decode cX7_clear 26 = .ok (.iconst 0, 1) := by decide +kernel
theorem dX7_clear_27 : decode cX7_clear 27 = .ok (.iastore, 1) := by decide +kernel
theorem dX7_clear_28 : decode cX7_clear 28 = .ok (.iinc 1 1, 3) := by decide +kernel
theorem dX7_clear_31 : decode cX7_clear 31 = .ok (.goto (-19), 3) := by decide +kernel
theorem dX7_clear_34 : decode cX7_clear 34 = .ok (.aload_n 0, 1) := by decide +kernel
theorem dX7_clear_35 : decode cX7_clear 35 = .ok (.iconst 0, 1) := by decide +kernel
theorem dX7_clear_36 : decode cX7_clear 36 = .ok (.putfield 28, 3) := by decide +kernel
theorem dX7_clear_39 : decode cX7_clear 39 = .ok (.aload_n 0, 1) := by decide +kernel
theorem dX7_clear_40 : decode cX7_clear 40 = .ok (.iconst 0, 1) := by decide +kernel
theorem dX7_clear_41 : decode cX7_clear 41 = .ok (.putfield 31, 3) := by decide +kernel
theorem dX7_clear_44 : decode cX7_clear 44 = .ok (.aload_n 0, 1) := by decide +kernel
theorem dX7_clear_45 : decode cX7_clear 45 = .ok (.bipush 99, 2) := by decide +kernel
theorem dX7_clear_47 : decode cX7_clear 47 = .ok (.putfield 34, 3) := by decide +kernel
theorem dX7_clear_50 : decode cX7_clear 50 = .ok (.return_, 1) := by decide +kernel
theorem dX7_copyFrom_0 : decode cX7_copyFrom 0 = .ok (.aload_n 0, 1) := by decide +kernel
theorem dX7_copyFrom_1 : decode cX7_copyFrom 1 = .ok (.aload_n 1, 1) := by decide +kernel
theorem dX7_copyFrom_2 : decode cX7_copyFrom 2 = .ok (.getfield 9, 3) := by decide +kernel
theorem dX7_copyFrom_5 : decode cX7_copyFrom 5 = .ok (.putfield 9, 3) := by decide +kernel
theorem dX7_copyFrom_8 : decode cX7_copyFrom 8 = .ok (.aload_n 0, 1) := by decide +kernel
theorem dX7_copyFrom_9 : decode cX7_copyFrom 9 = .ok (.aload_n 1, 1) := by decide +kernel
theorem dX7_copyFrom_10 : decode cX7_copyFrom 10 = .ok (.getfield 15, 3) := by decide +kernel
theorem dX7_copyFrom_13 : decode cX7_copyFrom 13 = .ok (.putfield 15, 3) := by decide +kernel
theorem dX7_copyFrom_16 : decode cX7_copyFrom 16 = .ok (.iconst 0, 1) := by decide +kernel
theorem dX7_copyFrom_17 : decode cX7_copyFrom 17 = .ok (.istore_n 2, 1) := by decide +kernel
theorem dX7_copyFrom_18 : decode cX7_copyFrom 18 = .ok (.iload_n 2, 1) := by decide +kernel
theorem dX7_copyFrom_19 : decode cX7_copyFrom 19 = .ok (.bipush 11, 2) := by decide +kernel
theorem dX7_copyFrom_21 : decode cX7_copyFrom 21 = .ok (.if_icmp .ge 21, 3) := by decide +kernel
theorem dX7_copyFrom_24 : decode cX7_copyFrom 24 = .ok (.aload_n 0, 1) := by decide +kernel
theorem dX7_copyFrom_25 : decode cX7_copyFrom 25 = .ok (.getfield 18, 3) := by decide +kernel
theorem dX7_copyFrom_28 : decode cX7_copyFrom 28 = .ok (.iload_n 2, 1) := by decide +kernel
theorem dX7_copyFrom_29 : decode cX7_copyFrom 29 = .ok (.aload_n 1, 1) := by decide +kernel
theorem dX7_copyFrom_30 : decode cX7_copyFrom 30 = .ok (.getfield 18, 3) := by decide +kernel
theorem dX7_copyFrom_33 : decode cX7_copyFrom 33 = .ok (.iload_n 2, 1) := by decide +kernel
theorem dX7_copyFrom_34 : decode cX7_copyFrom 34 = .ok (.iaload, 1) := by decide +kernel
theorem dX7_copyFrom_35 : decode cX7_copyFrom 35 = .ok (.iastore, 1) := by decide +kernel
theorem dX7_copyFrom_36 : decode cX7_copyFrom 36 = .ok (.iinc 2 1, 3) := by decide +kernel
theorem dX7_copyFrom_39 : decode cX7_copyFrom 39 = .ok (.goto (-21), 3) := by decide +kernel
theorem dX7_copyFrom_42 : decode cX7_copyFrom 42 = .ok (.iconst 0, 1) := by decide +kernel
theorem dX7_copyFrom_43 : decode cX7_copyFrom 43 = .ok (.istore_n 2, 1) := by decide +kernel
theorem dX7_copyFrom_44 : decode cX7_copyFrom 44 = .ok (.iload_n 2, 1) := by decide +kernel
theorem dX7_copyFrom_45 : decode cX7_copyFrom 45 = .ok (.bipush 10, 2) := by decide +kernel
theorem dX7_copyFrom_47 : decode cX7_copyFrom 47 = .ok (.if_icmp .ge 33, 3) := by decide +kernel
theorem dX7_copyFrom_50 : decode cX7_copyFrom 50 = .ok (.aload_n 0, 1) := by decide +kernel
theorem dX7_copyFrom_51 : decode cX7_copyFrom 51 = .ok (.getfield 22, 3) := by decide +kernel
theorem dX7_copyFrom_54 : decode cX7_copyFrom 54 = .ok (.iload_n 2, 1) := by decide +kernel
theorem dX7_copyFrom_55 : decode cX7_copyFrom 55 = .ok (.aload_n 1, 1) := by decide +kernel
theorem dX7_copyFrom_56 : decode cX7_copyFrom 56 = .ok (.getfield 22, 3) := by decide +kernel
theorem dX7_copyFrom_59 : decode cX7_copyFrom 59 = .ok (.iload_n 2, 1) := by decide +kernel
theorem dX7_copyFrom_60 : decode cX7_copyFrom 60 = .ok (.iaload, 1) := by decide +kernel
theorem dX7_copyFrom_61 : decode cX7_copyFrom 61 = .ok (.iastore, 1) := by decide +kernel
theorem dX7_copyFrom_62 : decode cX7_copyFrom 62 = .ok (.aload_n 0, 1) := by decide +kernel
theorem dX7_copyFrom_63 : decode cX7_copyFrom 63 = .ok (.getfield 25, 3) := by decide +kernel
theorem dX7_copyFrom_66 : decode cX7_copyFrom 66 = .ok (.iload_n 2, 1) := by decide +kernel
theorem dX7_copyFrom_67 : decode cX7_copyFrom 67 = .ok (.aload_n 1, 1) := by decide +kernel
theorem dX7_copyFrom_68 : decode cX7_copyFrom 68 = .ok (.getfield 25, 3) := by decide +kernel
theorem dX7_copyFrom_71 : decode cX7_copyFrom 71 = .ok (.iload_n 2, 1) := by decide +kernel
theorem dX7_copyFrom_72 : decode cX7_copyFrom 72 = .ok (.iaload, 1) := by decide +kernel
theorem dX7_copyFrom_73 : decode cX7_copyFrom 73 = .ok (.iastore, 1) := by decide +kernel
theorem dX7_copyFrom_74 : decode cX7_copyFrom 74 = .ok (.iinc 2 1, 3) := by decide +kernel
theorem dX7_copyFrom_77 : decode cX7_copyFrom 77 = .ok (.goto (-33), 3) := by decide +kernel
theorem dX7_copyFrom_80 : decode cX7_copyFrom 80 = .ok (.aload_n 0, 1) := by decide +kernel
theorem dX7_copyFrom_81 : decode cX7_copyFrom 81 = .ok (.aload_n 1, 1) := by decide +kernel
theorem dX7_copyFrom_82 : decode cX7_copyFrom 82 = .ok (.getfield 28, 3) := by decide +kernel
theorem dX7_copyFrom_85 : decode cX7_copyFrom 85 = .ok (.putfield 28, 3) := by decide +kernel
theorem dX7_copyFrom_88 : decode cX7_copyFrom 88 = .ok (.aload_n 0, 1) := by decide +kernel
theorem dX7_copyFrom_89 : decode cX7_copyFrom 89 = .ok (.aload_n 1, 1) := by decide +kernel
theorem dX7_copyFrom_90 : decode cX7_copyFrom 90 = .ok (.getfield 31, 3) := by decide +kernel
theorem dX7_copyFrom_93 : decode cX7_copyFrom 93 = .ok (.putfield 31, 3) := by decide +kernel
theorem dX7_copyFrom_96 : decode cX7_copyFrom 96 = .ok (.aload_n 0, 1) := by decide +kernel
theorem dX7_copyFrom_97 : decode cX7_copyFrom 97 = .ok (.aload_n 1, 1) := by decide +kernel
theorem dX7_copyFrom_98 : decode cX7_copyFrom 98 = .ok (.getfield 34, 3) := by decide +kernel
theorem dX7_copyFrom_101 : decode cX7_copyFrom 101 = .ok (.putfield 34, 3) := by decide +kernel
theorem dX7_copyFrom_104 : decode cX7_copyFrom 104 = .ok (.return_, 1) := by decide +kernel
theorem dX7_has_0 : decode cX7_has 0 = .ok (.iload_n 1, 1) := by decide +kernel
theorem dX7_has_1 : decode cX7_has 1 = .ok (.ifCond .lt 27, 3) := by decide +kernel
theorem dX7_has_4 : decode cX7_has 4 = .ok (.iload_n 1, 1) := by decide +kernel
theorem dX7_has_5 : decode cX7_has 5 = .ok (.aload_n 0, 1) := by decide +kernel
theorem dX7_has_6 : decode cX7_has 6 = .ok (.getfield 9, 3) := by decide +kernel
theorem dX7_has_9 : decode cX7_has 9 = .ok (.if_icmp .ge 19, 3) := by decide +kernel
theorem dX7_has_12 : decode cX7_has 12 = .ok (.iload_n 2, 1) := by decide +kernel
theorem dX7_has_13 : decode cX7_has 13 = .ok (.ifCond .lt 15, 3) := by decide +kernel
theorem dX7_has_16 : decode cX7_has 16 = .ok (.iload_n 2, 1) := by decide +kernel
theorem dX7_has_17 : decode cX7_has 17 = .ok (.aload_n 0, 1) := by decide +kernel
theorem dX7_has_18 : decode cX7_has 18 = .ok (.getfield 15, 3) := by decide +kernel
theorem dX7_has_21 : decode cX7_has 21 = .ok (.if_icmp .ge 7, 3) := by decide +kernel
theorem dX7_has_24 : decode cX7_has 24 = .ok (.iconst 1, 1) := by decide +kernel
theorem dX7_has_25 : decode cX7_has 25 = .ok (.goto 4, 3) := by decide +kernel
theorem dX7_has_28 : decode cX7_has 28 = .ok (.iconst 0, 1) := by decide +kernel
theorem dX7_has_29 : decode cX7_has 29 = .ok (.ireturn, 1) := by decide +kernel
theorem dX7_edgeAt_0 : decode cX7_edgeAt 0 = .ok (.aload_n 0, 1) := by decide +kernel
theorem dX7_edgeAt_1 : decode cX7_edgeAt 1 = .ok (.iload_n 1, 1) := by decide +kernel
theorem dX7_edgeAt_2 : decode cX7_edgeAt 2 = .ok (.iload_n 2, 1) := by decide +kernel
theorem dX7_edgeAt_3 : decode cX7_edgeAt 3 = .ok (.invokevirtual 37, 3) := by decide +kernel
theorem dX7_edgeAt_6 : decode cX7_edgeAt 6 = .ok (.ifCond .eq 16, 3) := by decide +kernel
theorem dX7_edgeAt_9 : decode cX7_edgeAt 9 = .ok (.aload_n 0, 1) := by decide +kernel
theorem dX7_edgeAt_10 : decode cX7_edgeAt 10 = .ok (.getfield 18, 3) := by decide +kernel
theorem dX7_edgeAt_13 : decode cX7_edgeAt 13 = .ok (.iload_n 2, 1) := by decide +kernel
theorem dX7_edgeAt_14 : decode cX7_edgeAt 14 = .ok (.iaload, 1) := by decide +kernel
theorem dX7_edgeAt_15 : decode cX7_edgeAt 15 = .ok (.iload_n 1, 1) := by decide +kernel
theorem dX7_edgeAt_16 : decode cX7_edgeAt 16 = .ok (.ishr, 1) := by decide +kernel
theorem dX7_edgeAt_17 : decode cX7_edgeAt 17 = .ok (.iconst 1, 1) := by decide +kernel
theorem dX7_edgeAt_18 : decode cX7_edgeAt 18 = .ok (.iand, 1) := by decide +kernel
theorem dX7_edgeAt_19 : decode cX7_edgeAt 19 = .ok (.goto 4, 3) := by decide +kernel
theorem dX7_edgeAt_22 : decode cX7_edgeAt 22 = .ok (.iconst 0, 1) := by decide +kernel
theorem dX7_edgeAt_23 : decode cX7_edgeAt 23 = .ok (.ireturn, 1) := by decide +kernel
theorem dX7_flipEdge_0 : decode cX7_flipEdge 0 = .ok (.aload_n 0, 1) := by decide +kernel
theorem dX7_flipEdge_1 : decode cX7_flipEdge 1 = .ok (.iload_n 1, 1) := by decide +kernel
theorem dX7_flipEdge_2 : decode cX7_flipEdge 2 = .ok (.iload_n 2, 1) := by decide +kernel
theorem dX7_flipEdge_3 : decode cX7_flipEdge 3 = .ok (.invokevirtual 37, 3) := by decide +kernel
theorem dX7_flipEdge_6 : decode cX7_flipEdge 6 = .ok (.ifCond .eq 15, 3) := by decide +kernel
theorem dX7_flipEdge_9 : decode cX7_flipEdge 9 = .ok (.aload_n 0, 1) := by decide +kernel
theorem dX7_flipEdge_10 : decode cX7_flipEdge 10 = .ok (.getfield 18, 3) := by decide +kernel
theorem dX7_flipEdge_13 : decode cX7_flipEdge 13 = .ok (.iload_n 2, 1) := by decide +kernel
theorem dX7_flipEdge_14 : decode cX7_flipEdge 14 = .ok (.dup2, 1) := by decide +kernel
theorem dX7_flipEdge_15 : decode cX7_flipEdge 15 = .ok (.iaload, 1) := by decide +kernel
theorem dX7_flipEdge_16 : decode cX7_flipEdge 16 = .ok (.iconst 1, 1) := by decide +kernel
theorem dX7_flipEdge_17 : decode cX7_flipEdge 17 = .ok (.iload_n 1, 1) := by decide +kernel
theorem dX7_flipEdge_18 : decode cX7_flipEdge 18 = .ok (.ishl, 1) := by decide +kernel
theorem dX7_flipEdge_19 : decode cX7_flipEdge 19 = .ok (.ixor, 1) := by decide +kernel
theorem dX7_flipEdge_20 : decode cX7_flipEdge 20 = .ok (.iastore, 1) := by decide +kernel
theorem dX7_flipEdge_21 : decode cX7_flipEdge 21 = .ok (.return_, 1) := by decide +kernel
theorem dX7_clearEdges_0 : decode cX7_clearEdges 0 = .ok (.iconst 0, 1) := by decide +kernel
theorem dX7_clearEdges_1 : decode cX7_clearEdges 1 = .ok (.istore_n 2, 1) := by decide +kernel
theorem dX7_clearEdges_2 : decode cX7_clearEdges 2 = .ok (.iload_n 2, 1) := by decide +kernel
theorem dX7_clearEdges_3 : decode cX7_clearEdges 3 = .ok (.aload_n 0, 1) := by decide +kernel
theorem dX7_clearEdges_4 : decode cX7_clearEdges 4 = .ok (.getfield 18, 3) := by decide +kernel
theorem dX7_clearEdges_7 : decode cX7_clearEdges 7 = .ok (.arraylength, 1) := by decide +kernel
theorem dX7_clearEdges_8 : decode cX7_clearEdges 8 = .ok (.if_icmp .ge 29, 3) := by decide +kernel
theorem dX7_clearEdges_11 : decode cX7_clearEdges 11 = .ok (.iload_n 2, 1) := by decide +kernel
theorem dX7_clearEdges_12 : decode cX7_clearEdges 12 = .ok (.aload_n 1, 1) := by decide +kernel
theorem dX7_clearEdges_13 : decode cX7_clearEdges 13 = .ok (.arraylength, 1) := by decide +kernel
theorem dX7_clearEdges_14 : decode cX7_clearEdges 14 = .ok (.if_icmp .ge 23, 3) := by decide +kernel
theorem dX7_clearEdges_17 : decode cX7_clearEdges 17 = .ok (.aload_n 0, 1) := by decide +kernel
theorem dX7_clearEdges_18 : decode cX7_clearEdges 18 = .ok (.getfield 18, 3) := by decide +kernel
theorem dX7_clearEdges_21 : decode cX7_clearEdges 21 = .ok (.iload_n 2, 1) := by decide +kernel
theorem dX7_clearEdges_22 : decode cX7_clearEdges 22 = .ok (.dup2, 1) := by decide +kernel
theorem dX7_clearEdges_23 : decode cX7_clearEdges 23 = .ok (.iaload, 1) := by decide +kernel
theorem dX7_clearEdges_24 : decode cX7_clearEdges 24 = .ok (.aload_n 1, 1) := by decide +kernel
theorem dX7_clearEdges_25 : decode cX7_clearEdges 25 = .ok (.iload_n 2, 1) := by decide +kernel
theorem dX7_clearEdges_26 : decode cX7_clearEdges 26 = .ok (.iaload, 1) := by decide +kernel
theorem dX7_clearEdges_27 : decode cX7_clearEdges 27 = .ok (.iconst (-1), 1) := by decide +kernel
theorem dX7_clearEdges_28 : decode cX7_clearEdges 28 = .ok (.ixor, 1) := by decide +kernel
theorem dX7_clearEdges_29 : decode cX7_clearEdges 29 = .ok (.iand, 1) := by decide +kernel
theorem dX7_clearEdges_30 : decode cX7_clearEdges 30 = .ok (.iastore, 1) := by decide +kernel
theorem dX7_clearEdges_31 : decode cX7_clearEdges 31 = .ok (.iinc 2 1, 3) := by decide +kernel
theorem dX7_clearEdges_34 : decode cX7_clearEdges 34 = .ok (.goto (-32), 3) := by decide +kernel
theorem dX7_clearEdges_37 : decode cX7_clearEdges 37 = .ok (.return_, 1) := by decide +kernel
theorem dX7_edges_0 : decode cX7_edges 0 = .ok (.iconst 0, 1) := by decide +kernel
theorem dX7_edges_1 : decode cX7_edges 1 = .ok (.istore_n 1, 1) := by decide +kernel
theorem dX7_edges_2 : decode cX7_edges 2 = .ok (.iconst 0, 1) := by decide +kernel
theorem dX7_edges_3 : decode cX7_edges 3 = .ok (.istore_n 2, 1) := by decide +kernel
theorem dX7_edges_4 : decode cX7_edges 4 = .ok (.iload_n 2, 1) := by decide +kernel
theorem dX7_edges_5 : decode cX7_edges 5 = .ok (.aload_n 0, 1) := by decide +kernel
theorem dX7_edges_6 : decode cX7_edges 6 = .ok (.getfield 18, 3) := by decide +kernel
theorem dX7_edges_9 : decode cX7_edges 9 = .ok (.arraylength, 1) := by decide +kernel
theorem dX7_edges_10 : decode cX7_edges 10 = .ok (.if_icmp .ge 21, 3) := by decide +kernel
theorem dX7_edges_13 : decode cX7_edges 13 = .ok (.iload_n 1, 1) := by decide +kernel
theorem dX7_edges_14 : decode cX7_edges 14 = .ok (.aload_n 0, 1) := by decide +kernel
theorem dX7_edges_15 : decode cX7_edges 15 = .ok (.getfield 18, 3) := by decide +kernel
theorem dX7_edges_18 : decode cX7_edges 18 = .ok (.iload_n 2, 1) := by decide +kernel
theorem dX7_edges_19 : decode cX7_edges 19 = .ok (.iaload, 1) := by decide +kernel
theorem dX7_edges_20 : decode cX7_edges 20 = .ok (.invokestatic 41, 3) := by decide +kernel
theorem dX7_edges_23 : decode cX7_edges 23 = .ok (.iadd, 1) := by decide +kernel
theorem dX7_edges_24 : decode cX7_edges 24 = .ok (.istore_n 1, 1) := by decide +kernel
theorem dX7_edges_25 : decode cX7_edges 25 = .ok (.iinc 2 1, 3) := by decide +kernel
theorem dX7_edges_28 : decode cX7_edges 28 = .ok (.goto (-24), 3) := by decide +kernel
theorem dX7_edges_31 : decode cX7_edges 31 = .ok (.iload_n 1, 1) := by decide +kernel
theorem dX7_edges_32 : decode cX7_edges 32 = .ok (.ireturn, 1) := by decide +kernel
theorem dX7_hasDot_0 : decode cX7_hasDot 0 = .ok (.iconst 0, 1) := by decide +kernel
theorem dX7_hasDot_1 : decode cX7_hasDot 1 = .ok (.istore_n 3, 1) := by decide +kernel
theorem dX7_hasDot_2 : decode cX7_hasDot 2 = .ok (.iload_n 3, 1) := by decide +kernel
theorem dX7_hasDot_3 : decode cX7_hasDot 3 = .ok (.aload_n 0, 1) := by decide +kernel
theorem dX7_hasDot_4 : decode cX7_hasDot 4 = .ok (.getfield 28, 3) := by decide +kernel
theorem dX7_hasDot_7 : decode cX7_hasDot 7 = .ok (.if_icmp .ge 31, 3) := by decide +kernel
theorem dX7_hasDot_10 : decode cX7_hasDot 10 = .ok (.aload_n 0, 1) := by decide +kernel
theorem dX7_hasDot_11 : decode cX7_hasDot 11 = .ok (.getfield 22, 3) := by decide +kernel
theorem dX7_hasDot_14 : decode cX7_hasDot 14 = .ok (.iload_n 3, 1) := by decide +kernel
theorem dX7_hasDot_15 : decode cX7_hasDot 15 = .ok (.iaload, 1) := by decide +kernel
theorem dX7_hasDot_16 : decode cX7_hasDot 16 = .ok (.iload_n 1, 1) := by decide +kernel
theorem dX7_hasDot_17 : decode cX7_hasDot 17 = .ok (.if_icmp .ne 15, 3) := by decide +kernel
theorem dX7_hasDot_20 : decode cX7_hasDot 20 = .ok (.aload_n 0, 1) := by decide +kernel
theorem dX7_hasDot_21 : decode cX7_hasDot 21 = .ok (.getfield 25, 3) := by decide +kernel
theorem dX7_hasDot_24 : decode cX7_hasDot 24 = .ok (.iload_n 3, 1) := by decide +kernel
theorem dX7_hasDot_25 : decode cX7_hasDot 25 = .ok (.iaload, 1) := by decide +kernel
theorem dX7_hasDot_26 : decode cX7_hasDot 26 = .ok (.iload_n 2, 1) := by decide +kernel
theorem dX7_hasDot_27 : decode cX7_hasDot 27 = .ok (.if_icmp .ne 5, 3) := by decide +kernel
theorem dX7_hasDot_30 : decode cX7_hasDot 30 = .ok (.iconst 1, 1) := by decide +kernel
theorem dX7_hasDot_31 : decode cX7_hasDot 31 = .ok (.ireturn, 1) := by decide +kernel
theorem dX7_hasDot_32 : decode cX7_hasDot 32 = .ok (.iinc 3 1, 3) := by decide +kernel
theorem dX7_hasDot_35 : decode cX7_hasDot 35 = .ok (.goto (-33), 3) := by decide +kernel
theorem dX7_hasDot_38 : decode cX7_hasDot 38 = .ok (.iconst 0, 1) := by decide +kernel
theorem dX7_hasDot_39 : decode cX7_hasDot 39 = .ok (.ireturn, 1) := by decide +kernel
theorem dX7_addDot_0 : decode cX7_addDot 0 = .ok (.aload_n 0, 1) := by decide +kernel
theorem dX7_addDot_1 : decode cX7_addDot 1 = .ok (.getfield 28, 3) := by decide +kernel
theorem dX7_addDot_4 : decode cX7_addDot 4 = .ok (.bipush 10, 2) := by decide +kernel
theorem dX7_addDot_6 : decode cX7_addDot 6 = .ok (.if_icmp .ge 33, 3) := by decide +kernel
theorem dX7_addDot_9 : decode cX7_addDot 9 = .ok (.aload_n 0, 1) := by decide +kernel
theorem dX7_addDot_10 : decode cX7_addDot 10 = .ok (.getfield 22, 3) := by decide +kernel
theorem dX7_addDot_13 : decode cX7_addDot 13 = .ok (.aload_n 0, 1) := by decide +kernel
theorem dX7_addDot_14 : decode cX7_addDot 14 = .ok (.getfield 28, 3) := by decide +kernel
theorem dX7_addDot_17 : decode cX7_addDot 17 = .ok (.iload_n 1, 1) := by decide +kernel
theorem dX7_addDot_18 : decode cX7_addDot 18 = .ok (.iastore, 1) := by decide +kernel
theorem dX7_addDot_19 : decode cX7_addDot 19 = .ok (.aload_n 0, 1) := by decide +kernel
theorem dX7_addDot_20 : decode cX7_addDot 20 = .ok (.getfield 25, 3) := by decide +kernel
theorem dX7_addDot_23 : decode cX7_addDot 23 = .ok (.aload_n 0, 1) := by decide +kernel
theorem dX7_addDot_24 : decode cX7_addDot 24 = .ok (.getfield 28, 3) := by decide +kernel
theorem dX7_addDot_27 : decode cX7_addDot 27 = .ok (.iload_n 2, 1) := by decide +kernel
theorem dX7_addDot_28 : decode cX7_addDot 28 = .ok (.iastore, 1) := by decide +kernel
theorem dX7_addDot_29 : decode cX7_addDot 29 = .ok (.aload_n 0, 1) := by decide +kernel
theorem dX7_addDot_30 : decode cX7_addDot 30 = .ok (.dup, 1) := by decide +kernel
theorem dX7_addDot_31 : decode cX7_addDot 31 = .ok (.getfield 28, 3) := by decide +kernel
theorem dX7_addDot_34 : decode cX7_addDot 34 = .ok (.iconst 1, 1) := by decide +kernel
theorem dX7_addDot_35 : decode cX7_addDot 35 = .ok (.iadd, 1) := by decide +kernel
theorem dX7_addDot_36 : decode cX7_addDot 36 = .ok (.putfield 28, 3) := by decide +kernel
theorem dX7_addDot_39 : decode cX7_addDot 39 = .ok (.return_, 1) := by decide +kernel
theorem dX7_removeDot_0 : decode cX7_removeDot 0 = .ok (.iload_n 1, 1) := by decide +kernel
theorem dX7_removeDot_1 : decode cX7_removeDot 1 = .ok (.ifCond .lt 11, 3) := by decide +kernel
theorem dX7_removeDot_4 : decode cX7_removeDot 4 = .ok (.iload_n 1, 1) := by decide +kernel
theorem dX7_removeDot_5 : decode cX7_removeDot 5 = .ok (.aload_n 0, 1) := by decide +kernel
theorem dX7_removeDot_6 : decode cX7_removeDot 6 = .ok (.getfield 28, 3) := by decide +kernel
theorem dX7_removeDot_9 : decode cX7_removeDot 9 = .ok (.if_icmp .lt 4, 3) := by decide +kernel
theorem dX7_removeDot_12 : decode cX7_removeDot 12 = .ok (.return_, 1) := by decide +kernel
theorem dX7_removeDot_13 : decode cX7_removeDot 13 = .ok (.iload_n 1, 1) := by decide +kernel
theorem dX7_removeDot_14 : decode cX7_removeDot 14 = .ok (.iconst 1, 1) := by decide +kernel
theorem dX7_removeDot_15 : decode cX7_removeDot 15 = .ok (.iadd, 1) := by decide +kernel
theorem dX7_removeDot_16 : decode cX7_removeDot 16 = .ok (.istore_n 2, 1) := by decide +kernel
theorem dX7_removeDot_17 : decode cX7_removeDot 17 = .ok (.iload_n 2, 1) := by decide +kernel
theorem dX7_removeDot_18 : decode cX7_removeDot 18 = .ok (.aload_n 0, 1) := by decide +kernel
theorem dX7_removeDot_19 : decode cX7_removeDot 19 = .ok (.getfield 28, 3) := by decide +kernel
theorem dX7_removeDot_22 : decode cX7_removeDot 22 = .ok (.if_icmp .ge 37, 3) := by decide +kernel
theorem dX7_removeDot_25 : decode cX7_removeDot 25 = .ok (.aload_n 0, 1) := by decide +kernel
theorem dX7_removeDot_26 : decode cX7_removeDot 26 = .ok (.getfield 22, 3) := by decide +kernel
theorem dX7_removeDot_29 : decode cX7_removeDot 29 = .ok (.iload_n 2, 1) := by decide +kernel
theorem dX7_removeDot_30 : decode cX7_removeDot 30 = .ok (.iconst 1, 1) := by decide +kernel
theorem dX7_removeDot_31 : decode cX7_removeDot 31 = .ok (.isub, 1) := by decide +kernel
theorem dX7_removeDot_32 : decode cX7_removeDot 32 = .ok (.aload_n 0, 1) := by decide +kernel
theorem dX7_removeDot_33 : decode cX7_removeDot 33 = .ok (.getfield 22, 3) := by decide +kernel
theorem dX7_removeDot_36 : decode cX7_removeDot 36 = .ok (.iload_n 2, 1) := by decide +kernel
theorem dX7_removeDot_37 : decode cX7_removeDot 37 = .ok (.iaload, 1) := by decide +kernel
theorem dX7_removeDot_38 : decode cX7_removeDot 38 = .ok (.iastore, 1) := by decide +kernel
theorem dX7_removeDot_39 : decode cX7_removeDot 39 = .ok (.aload_n 0, 1) := by decide +kernel
theorem dX7_removeDot_40 : decode cX7_removeDot 40 = .ok (.getfield 25, 3) := by decide +kernel
theorem dX7_removeDot_43 : decode cX7_removeDot 43 = .ok (.iload_n 2, 1) := by decide +kernel
theorem dX7_removeDot_44 : decode cX7_removeDot 44 = .ok (.iconst 1, 1) := by decide +kernel
theorem dX7_removeDot_45 : decode cX7_removeDot 45 = .ok (.isub, 1) := by decide +kernel
theorem dX7_removeDot_46 : decode cX7_removeDot 46 = .ok (.aload_n 0, 1) := by decide +kernel
theorem dX7_removeDot_47 : decode cX7_removeDot 47 = .ok (.getfield 25, 3) := by decide +kernel
theorem dX7_removeDot_50 : decode cX7_removeDot 50 = .ok (.iload_n 2, 1) := by decide +kernel
theorem dX7_removeDot_51 : decode cX7_removeDot 51 = .ok (.iaload, 1) := by decide +kernel
theorem dX7_removeDot_52 : decode cX7_removeDot 52 = .ok (.iastore, 1) := by decide +kernel
theorem dX7_removeDot_53 : decode cX7_removeDot 53 = .ok (.iinc 2 1, 3) := by decide +kernel
theorem dX7_removeDot_56 : decode cX7_removeDot 56 = .ok (.goto (-39), 3) := by decide +kernel
theorem dX7_removeDot_59 : decode cX7_removeDot 59 = .ok (.aload_n 0, 1) := by decide +kernel
theorem dX7_removeDot_60 : decode cX7_removeDot 60 = .ok (.dup, 1) := by decide +kernel
theorem dX7_removeDot_61 : decode cX7_removeDot 61 = .ok (.getfield 28, 3) := by decide +kernel
theorem dX7_removeDot_64 : decode cX7_removeDot 64 = .ok (.iconst 1, 1) := by decide +kernel
theorem dX7_removeDot_65 : decode cX7_removeDot 65 = .ok (.isub, 1) := by decide +kernel
theorem dX7_removeDot_66 : decode cX7_removeDot 66 = .ok (.putfield 28, 3) := by decide +kernel
theorem dX7_removeDot_69 : decode cX7_removeDot 69 = .ok (.return_, 1) := by decide +kernel
theorem dX7_apart_0 : decode cX7_apart 0 = .ok (.iload_n 1, 1) := by decide +kernel
theorem dX7_apart_1 : decode cX7_apart 1 = .ok (.invokestatic 47, 3) := by decide +kernel
theorem dX7_apart_4 : decode cX7_apart 4 = .ok (.istore_n 3, 1) := by decide +kernel
theorem dX7_apart_5 : decode cX7_apart 5 = .ok (.iload_n 2, 1) := by decide +kernel
theorem dX7_apart_6 : decode cX7_apart 6 = .ok (.invokestatic 47, 3) := by decide +kernel
theorem dX7_apart_9 : decode cX7_apart 9 = .ok (.istore 4, 2) := by decide +kernel
theorem dX7_apart_11 : decode cX7_apart 11 = .ok (.iload_n 3, 1) := by decide +kernel
theorem dX7_apart_12 : decode cX7_apart 12 = .ok (.iload 4, 2) := by decide +kernel
theorem dX7_apart_14 : decode cX7_apart 14 = .ok (.invokestatic 52, 3) := by decide +kernel
theorem dX7_apart_17 : decode cX7_apart 17 = .ok (.istore 5, 2) := by decide +kernel
theorem dX7_apart_19 : decode cX7_apart 19 = .ok (.aload_n 0, 1) := by decide +kernel
theorem dX7_apart_20 : decode cX7_apart 20 = .ok (.getfield 31, 3) := by decide +kernel
theorem dX7_apart_23 : decode cX7_apart 23 = .ok (.lookupswitch 33 #[(0, 25), (1, 30)], 25) := by decide +kernel
theorem dX7_apart_48 : decode cX7_apart 48 = .ok (.iload_n 3, 1) := by decide +kernel
theorem dX7_apart_49 : decode cX7_apart 49 = .ok (.iload 4, 2) := by decide +kernel
theorem dX7_apart_51 : decode cX7_apart 51 = .ok (.iadd, 1) := by decide +kernel
theorem dX7_apart_52 : decode cX7_apart 52 = .ok (.ireturn, 1) := by decide +kernel
theorem dX7_apart_53 : decode cX7_apart 53 = .ok (.iload 5, 2) := by decide +kernel
theorem dX7_apart_55 : decode cX7_apart 55 = .ok (.ireturn, 1) := by decide +kernel
theorem dX7_apart_56 : decode cX7_apart 56 = .ok (.iconst 3, 1) := by decide +kernel
theorem dX7_apart_57 : decode cX7_apart 57 = .ok (.iload 5, 2) := by decide +kernel
theorem dX7_apart_59 : decode cX7_apart 59 = .ok (.imul, 1) := by decide +kernel
theorem dX7_apart_60 : decode cX7_apart 60 = .ok (.iload_n 3, 1) := by decide +kernel
theorem dX7_apart_61 : decode cX7_apart 61 = .ok (.iload 4, 2) := by decide +kernel
theorem dX7_apart_63 : decode cX7_apart 63 = .ok (.invokestatic 56, 3) := by decide +kernel
theorem dX7_apart_66 : decode cX7_apart 66 = .ok (.iadd, 1) := by decide +kernel
theorem dX7_apart_67 : decode cX7_apart 67 = .ok (.ireturn, 1) := by decide +kernel
theorem dX8_init_0 : decode cX8_init 0 = .ok (.aload_n 0, 1) := by decide +kernel
theorem dX8_init_1 : decode cX8_init 1 = .ok (.invokespecial 3, 3) := by decide +kernel
theorem dX8_init_4 : decode cX8_init 4 = .ok (.aload_n 0, 1) := by decide +kernel
theorem dX8_init_5 : decode cX8_init 5 = .ok (.sipush 200, 3) := by decide +kernel
theorem dX8_init_8 : decode cX8_init 8 = .ok (.newarray .char, 2) := by decide +kernel
theorem dX8_init_10 : decode cX8_init 10 = .ok (.putfield 9, 3) := by decide +kernel
theorem dX8_init_13 : decode cX8_init 13 = .ok (.aload_n 0, 1) := by decide +kernel
theorem dX8_init_14 : decode cX8_init 14 = .ok (.iconst 0, 1) := by decide +kernel
theorem dX8_init_15 : decode cX8_init 15 = .ok (.putfield 15, 3) := by decide +kernel
theorem dX8_init_18 : decode cX8_init 18 = .ok (.return_, 1) := by decide +kernel
theorem dX8_append_0 : decode cX8_append 0 = .ok (.aload_n 0, 1) := by decide +kernel
theorem dX8_append_1 : decode cX8_append 1 = .ok (.getfield 15, 3) := by decide +kernel
theorem dX8_append_4 : decode cX8_append 4 = .ok (.aload_n 0, 1) := by decide +kernel
theorem dX8_append_5 : decode cX8_append 5 = .ok (.getfield 9, 3) := by decide +kernel
theorem dX8_append_8 : decode cX8_append 8 = .ok (.arraylength, 1) := by decide +kernel
theorem dX8_append_9 : decode cX8_append 9 = .ok (.if_icmp .lt 5, 3) := by decide +kernel
theorem dX8_append_12 : decode cX8_append 12 = .ok (.iconst 0, 1) := by decide +kernel
theorem dX8_append_13 : decode cX8_append 13 = .ok (.ireturn, 1) := by decide +kernel
theorem dX8_append_14 : decode cX8_append 14 = .ok (.aload_n 0, 1) := by decide +kernel
theorem dX8_append_15 : decode cX8_append 15 = .ok (.getfield 9, 3) := by decide +kernel
theorem dX8_append_18 : decode cX8_append 18 = .ok (.aload_n 0, 1) := by decide +kernel
theorem dX8_append_19 : decode cX8_append 19 = .ok (.getfield 15, 3) := by decide +kernel
theorem dX8_append_22 : decode cX8_append 22 = .ok (.iload_n 1, 1) := by decide +kernel
theorem dX8_append_23 : decode cX8_append 23 = .ok (.castore, 1) := by decide +kernel
theorem dX8_append_24 : decode cX8_append 24 = .ok (.aload_n 0, 1) := by decide +kernel
theorem dX8_append_25 : decode cX8_append 25 = .ok (.dup, 1) := by decide +kernel
theorem dX8_append_26 : decode cX8_append 26 = .ok (.getfield 15, 3) := by decide +kernel
theorem dX8_append_29 : decode cX8_append 29 = .ok (.iconst 1, 1) := by decide +kernel
theorem dX8_append_30 : decode cX8_append 30 = .ok (.iadd, 1) := by decide +kernel
theorem dX8_append_31 : decode cX8_append 31 = .ok (.putfield 15, 3) := by decide +kernel
theorem dX8_append_34 : decode cX8_append 34 = .ok (.iconst 1, 1) := by decide +kernel
theorem dX8_append_35 : decode cX8_append 35 = .ok (.ireturn, 1) := by decide +kernel
theorem dX8_at_0 : decode cX8_at 0 = .ok (.iload_n 1, 1) := by decide +kernel
theorem dX8_at_1 : decode cX8_at 1 = .ok (.ifCond .lt 29, 3) := by decide +kernel
theorem dX8_at_4 : decode cX8_at 4 = .ok (.iload_n 1, 1) := by decide +kernel
theorem dX8_at_5 : decode cX8_at 5 = .ok (.aload_n 0, 1) := by decide +kernel
theorem dX8_at_6 : decode cX8_at 6 = .ok (.getfield 15, 3) := by decide +kernel
theorem dX8_at_9 : decode cX8_at 9 = .ok (.if_icmp .ge 21, 3) := by decide +kernel
theorem dX8_at_12 : decode cX8_at 12 = .ok (.iload_n 1, 1) := by decide +kernel
theorem dX8_at_13 : decode cX8_at 13 = .ok (.aload_n 0, 1) := by decide +kernel
theorem dX8_at_14 : decode cX8_at 14 = .ok (.getfield 9, 3) := by decide +kernel
theorem dX8_at_17 : decode cX8_at 17 = .ok (.arraylength, 1) := by decide +kernel
theorem dX8_at_18 : decode cX8_at 18 = .ok (.if_icmp .ge 12, 3) := by decide +kernel
theorem dX8_at_21 : decode cX8_at 21 = .ok (.aload_n 0, 1) := by decide +kernel
theorem dX8_at_22 : decode cX8_at 22 = .ok (.getfield 9, 3) := by decide +kernel
theorem dX8_at_25 : decode cX8_at 25 = .ok (.iload_n 1, 1) := by decide +kernel
theorem dX8_at_26 : decode cX8_at 26 = .ok (.caload, 1) := by decide +kernel
theorem dX8_at_27 : decode cX8_at 27 = .ok (.goto 4, 3) := by decide +kernel
theorem dX8_at_30 : decode cX8_at 30 = .ok (.iconst 0, 1) := by decide +kernel
theorem dX8_at_31 : decode cX8_at 31 = .ok (.ireturn, 1) := by decide +kernel
theorem dX9_init_0 : decode cX9_init 0 = .ok (.aload_n 0, 1) := by decide +kernel
theorem dX9_init_1 : decode cX9_init 1 = .ok (.invokespecial 3, 3) := by decide +kernel
theorem dX9_init_4 : decode cX9_init 4 = .ok (.aload_n 0, 1) := by decide +kernel
theorem dX9_init_5 : decode cX9_init 5 = .ok (.bipush 10, 2) := by decide +kernel
theorem dX9_init_7 : decode cX9_init 7 = .ok (.newarray .int, 2) := by decide +kernel
theorem dX9_init_9 : decode cX9_init 9 = .ok (.putfield 9, 3) := by decide +kernel
theorem dX9_init_12 : decode cX9_init 12 = .ok (.aload_n 0, 1) := by decide +kernel
theorem dX9_init_13 : decode cX9_init 13 = .ok (.bipush 10, 2) := by decide +kernel
theorem dX9_init_15 : decode cX9_init 15 = .ok (.newarray .int, 2) := by decide +kernel
theorem dX9_init_17 : decode cX9_init 17 = .ok (.putfield 15, 3) := by decide +kernel
theorem dX9_init_20 : decode cX9_init 20 = .ok (.aload_n 0, 1) := by decide +kernel
theorem dX9_init_21 : decode cX9_init 21 = .ok (.iconst 0, 1) := by decide +kernel
theorem dX9_init_22 : decode cX9_init 22 = .ok (.putfield 18, 3) := by decide +kernel
theorem dX9_init_25 : decode cX9_init 25 = .ok (.aload_n 0, 1) := by decide +kernel
theorem dX9_init_26 : decode cX9_init 26 = .ok (.iconst 0, 1) := by decide +kernel
theorem dX9_init_27 : decode cX9_init 27 = .ok (.putfield 22, 3) := by decide +kernel
theorem dX9_init_30 : decode cX9_init 30 = .ok (.aload_n 0, 1) := by decide +kernel
theorem dX9_init_31 : decode cX9_init 31 = .ok (.iconst 0, 1) := by decide +kernel
theorem dX9_init_32 : decode cX9_init 32 = .ok (.putfield 25, 3) := by decide +kernel
theorem dX9_init_35 : decode cX9_init 35 = .ok (.aload_n 0, 1) := by decide +kernel
theorem dX9_init_36 : decode cX9_init 36 = .ok (.iconst 0, 1) := by decide +kernel
theorem dX9_init_37 : decode cX9_init 37 = .ok (.putfield 28, 3) := by decide +kernel
theorem dX9_init_40 : decode cX9_init 40 = .ok (.aload_n 0, 1) := by decide +kernel
theorem dX9_init_41 : decode cX9_init 41 = .ok (.iconst 0, 1) := by decide +kernel
theorem dX9_init_42 : decode cX9_init 42 = .ok (.putfield 31, 3) := by decide +kernel
theorem dX9_init_45 : decode cX9_init 45 = .ok (.return_, 1) := by decide +kernel
theorem dX9_form_0 : decode cX9_form 0 = .ok (.aload_n 0, 1) := by decide +kernel
theorem dX9_form_1 : decode cX9_form 1 = .ok (.aload_n 1, 1) := by decide +kernel
theorem dX9_form_2 : decode cX9_form 2 = .ok (.getfield 34, 3) := by decide +kernel
theorem dX9_form_5 : decode cX9_form 5 = .ok (.putfield 18, 3) := by decide +kernel
theorem dX9_form_8 : decode cX9_form 8 = .ok (.iconst 0, 1) := by decide +kernel
theorem dX9_form_9 : decode cX9_form 9 = .ok (.istore 5, 2) := by decide +kernel
theorem dX9_form_11 : decode cX9_form 11 = .ok (.iload 5, 2) := by decide +kernel
theorem dX9_form_13 : decode cX9_form 13 = .ok (.aload_n 0, 1) := by decide +kernel
theorem dX9_form_14 : decode cX9_form 14 = .ok (.getfield 18, 3) := by decide +kernel
theorem dX9_form_17 : decode cX9_form 17 = .ok (.if_icmp .ge 106, 3) := by decide +kernel
theorem dX9_form_20 : decode cX9_form 20 = .ok (.iload 4, 2) := by decide +kernel
theorem dX9_form_22 : decode cX9_form 22 = .ok (.iconst 1, 1) := by decide +kernel
theorem dX9_form_23 : decode cX9_form 23 = .ok (.if_icmp .ne 14, 3) := by decide +kernel
theorem dX9_form_26 : decode cX9_form 26 = .ok (.aload_n 1, 1) := by decide +kernel
theorem dX9_form_27 : decode cX9_form 27 = .ok (.getfield 37, 3) := by decide +kernel
theorem dX9_form_30 : decode cX9_form 30 = .ok (.iload 5, 2) := by decide +kernel
theorem dX9_form_32 : decode cX9_form 32 = .ok (.iaload, 1) := by decide +kernel
theorem dX9_form_33 : decode cX9_form 33 = .ok (.ineg, 1) := by decide +kernel
theorem dX9_form_34 : decode cX9_form 34 = .ok (.goto 10, 3) := by decide +kernel
theorem dX9_form_37 : decode cX9_form 37 = .ok (.aload_n 1, 1) := by decide +kernel
theorem dX9_form_38 : decode cX9_form 38 = .ok (.getfield 37, 3) := by decide +kernel
theorem dX9_form_41 : decode cX9_form 41 = .ok (.iload 5, 2) := by decide +kernel
theorem dX9_form_43 : decode cX9_form 43 = .ok (.iaload, 1) := by decide +kernel
theorem dX9_form_44 : decode cX9_form 44 = .ok (.istore 6, 2) := by decide +kernel
theorem dX9_form_46 : decode cX9_form 46 = .ok (.aload_n 1, 1) := by decide +kernel
theorem dX9_form_47 : decode cX9_form 47 = .ok (.getfield 40, 3) := by decide +kernel
theorem dX9_form_50 : decode cX9_form 50 = .ok (.iload 5, 2) := by decide +kernel
theorem dX9_form_52 : decode cX9_form 52 = .ok (.iaload, 1) := by decide +kernel
theorem dX9_form_53 : decode cX9_form 53 = .ok (.istore 7, 2) := by decide +kernel
theorem dX9_form_55 : decode cX9_form 55 = .ok (.iconst 0, 1) := by decide +kernel
theorem dX9_form_56 : decode cX9_form 56 = .ok (.istore 8, 2) := by decide +kernel
theorem dX9_form_58 : decode cX9_form 58 = .ok (.iload 8, 2) := by decide +kernel
theorem dX9_form_60 : decode cX9_form 60 = .ok (.iload_n 3, 1) := by decide +kernel
theorem dX9_form_61 : decode cX9_form 61 = .ok (.if_icmp .ge 22, 3) := by decide +kernel
theorem dX9_form_64 : decode cX9_form 64 = .ok (.iload 6, 2) := by decide +kernel
theorem dX9_form_66 : decode cX9_form 66 = .ok (.istore 9, 2) := by decide +kernel
theorem dX9_form_68 : decode cX9_form 68 = .ok (.iload 7, 2) := by decide +kernel
theorem dX9_form_70 : decode cX9_form 70 = .ok (.ineg, 1) := by decide +kernel
theorem dX9_form_71 : decode cX9_form 71 = .ok (.istore 6, 2) := by decide +kernel
theorem dX9_form_73 : decode cX9_form 73 = .ok (.iload 9, 2) := by decide +kernel
theorem dX9_form_75 : decode cX9_form 75 = .ok (.istore 7, 2) := by decide +kernel
theorem dX9_form_77 : decode cX9_form 77 = .ok (.iinc 8 1, 3) := by decide +kernel
theorem dX9_form_80 : decode cX9_form 80 = .ok (.goto (-22), 3) := by decide +kernel
theorem dX9_form_83 : decode cX9_form 83 = .ok (.aload_n 0, 1) := by decide +kernel
theorem dX9_form_84 : decode cX9_form 84 = .ok (.getfield 9, 3) := by decide +kernel
theorem dX9_form_87 : decode cX9_form 87 = .ok (.iload 5, 2) := by decide +kernel
theorem dX9_form_89 : decode cX9_form 89 = .ok (.iload 6, 2) := by decide +kernel
theorem dX9_form_91 : decode cX9_form 91 = .ok (.iload_n 2, 1) := by decide +kernel
theorem dX9_form_92 : decode cX9_form 92 = .ok (.imul, 1) := by decide +kernel
theorem dX9_form_93 : decode cX9_form 93 = .ok (.iconst 1, 1) := by decide +kernel
theorem dX9_form_94 : decode cX9_form 94 = .ok (.iadd, 1) := by decide +kernel
theorem dX9_form_95 : decode cX9_form 95 = .ok (.iconst 2, 1) := by decide +kernel
theorem dX9_form_96 : decode cX9_form 96 = .ok (.invokestatic 43, 3) := by decide +kernel
theorem dX9_form_99 : decode cX9_form 99 = .ok (.iastore, 1) := by decide +kernel
theorem dX9_form_100 : decode cX9_form 100 = .ok (.aload_n 0, 1) := by decide +kernel
theorem dX9_form_101 : decode cX9_form 101 = .ok (.getfield 15, 3) := by decide +kernel
theorem dX9_form_104 : decode cX9_form 104 = .ok (.iload 5, 2) := by decide +kernel
theorem dX9_form_106 : decode cX9_form 106 = .ok (.iload 7, 2) := by decide +kernel
theorem dX9_form_108 : decode cX9_form 108 = .ok (.iload_n 2, 1) := by decide +kernel
theorem dX9_form_109 : decode cX9_form 109 = .ok (.imul, 1) := by decide +kernel
theorem dX9_form_110 : decode cX9_form 110 = .ok (.iconst 1, 1) := by decide +kernel
theorem dX9_form_111 : decode cX9_form 111 = .ok (.iadd, 1) := by decide +kernel
theorem dX9_form_112 : decode cX9_form 112 = .ok (.iconst 2, 1) := by decide +kernel
theorem dX9_form_113 : decode cX9_form 113 = .ok (.invokestatic 43, 3) := by decide +kernel
theorem dX9_form_116 : decode cX9_form 116 = .ok (.iastore, 1) := by decide +kernel
theorem dX9_form_117 : decode cX9_form 117 = .ok (.iinc 5 1, 3) := by decide +kernel
theorem dX9_form_120 : decode cX9_form 120 = .ok (.goto (-109), 3) := by decide +kernel
theorem dX9_form_123 : decode cX9_form 123 = .ok (.aload_n 0, 1) := by decide +kernel
theorem dX9_form_124 : decode cX9_form 124 = .ok (.invokevirtual 49, 3) := by decide +kernel
theorem dX9_form_127 : decode cX9_form 127 = .ok (.return_, 1) := by decide +kernel
theorem dX9_findBox_0 : decode cX9_findBox 0 = .ok (.aload_n 0, 1) := by decide +kernel
theorem dX9_findBox_1 : decode cX9_findBox 1 = .ok (.aload_n 0, 1) := by decide +kernel
theorem dX9_findBox_2 : decode cX9_findBox 2 = .ok (.getfield 9, 3) := by decide +kernel
theorem dX9_findBox_5 : decode cX9_findBox 5 = .ok (.iconst 0, 1) := by decide +kernel
theorem dX9_findBox_6 : decode cX9_findBox 6 = .ok (.iaload, 1) := by decide +kernel
theorem dX9_findBox_7 : decode cX9_findBox 7 = .ok (.putfield 22, 3) := by decide +kernel
theorem dX9_findBox_10 : decode cX9_findBox 10 = .ok (.aload_n 0, 1) := by decide +kernel
theorem dX9_findBox_11 : decode cX9_findBox 11 = .ok (.aload_n 0, 1) := by decide +kernel
theorem dX9_findBox_12 : decode cX9_findBox 12 = .ok (.getfield 9, 3) := by decide +kernel
theorem dX9_findBox_15 : decode cX9_findBox 15 = .ok (.iconst 0, 1) := by decide +kernel
theorem dX9_findBox_16 : decode cX9_findBox 16 = .ok (.iaload, 1) := by decide +kernel
theorem dX9_findBox_17 : decode cX9_findBox 17 = .ok (.putfield 25, 3) := by decide +kernel
theorem dX9_findBox_20 : decode cX9_findBox 20 = .ok (.aload_n 0, 1) := by decide +kernel
theorem dX9_findBox_21 : decode cX9_findBox 21 = .ok (.aload_n 0, 1) := by decide +kernel
theorem dX9_findBox_22 : decode cX9_findBox 22 = .ok (.getfield 15, 3) := by decide +kernel
theorem dX9_findBox_25 : decode cX9_findBox 25 = .ok (.iconst 0, 1) := by decide +kernel
theorem dX9_findBox_26 : decode cX9_findBox 26 = .ok (.iaload, 1) := by decide +kernel
theorem dX9_findBox_27 : decode cX9_findBox 27 = .ok (.putfield 28, 3) := by decide +kernel
theorem dX9_findBox_30 : decode cX9_findBox 30 = .ok (.aload_n 0, 1) := by decide +kernel
theorem dX9_findBox_31 : decode cX9_findBox 31 = .ok (.aload_n 0, 1) := by decide +kernel
theorem dX9_findBox_32 : decode cX9_findBox 32 = .ok (.getfield 15, 3) := by decide +kernel
theorem dX9_findBox_35 : decode cX9_findBox 35 = .ok (.iconst 0, 1) := by decide +kernel
theorem dX9_findBox_36 : decode cX9_findBox 36 = .ok (.iaload, 1) := by decide +kernel
theorem dX9_findBox_37 : decode cX9_findBox 37 = .ok (.putfield 31, 3) := by decide +kernel
theorem dX9_findBox_40 : decode cX9_findBox 40 = .ok (.iconst 1, 1) := by decide +kernel
theorem dX9_findBox_41 : decode cX9_findBox 41 = .ok (.istore_n 1, 1) := by decide +kernel
theorem dX9_findBox_42 : decode cX9_findBox 42 = .ok (.iload_n 1, 1) := by decide +kernel
theorem dX9_findBox_43 : decode cX9_findBox 43 = .ok (.aload_n 0, 1) := by decide +kernel
theorem dX9_findBox_44 : decode cX9_findBox 44 = .ok (.getfield 18, 3) := by decide +kernel
theorem dX9_findBox_47 : decode cX9_findBox 47 = .ok (.if_icmp .ge 77, 3) := by decide +kernel
theorem dX9_findBox_50 : decode cX9_findBox 50 = .ok (.aload_n 0, 1) := by decide +kernel
theorem dX9_findBox_51 : decode cX9_findBox 51 = .ok (.aload_n 0, 1) := by decide +kernel
theorem dX9_findBox_52 : decode cX9_findBox 52 = .ok (.getfield 22, 3) := by decide +kernel
theorem dX9_findBox_55 : decode cX9_findBox 55 = .ok (.aload_n 0, 1) := by decide +kernel
theorem dX9_findBox_56 : decode cX9_findBox 56 = .ok (.getfield 9, 3) := by decide +kernel
theorem dX9_findBox_59 : decode cX9_findBox 59 = .ok (.iload_n 1, 1) := by decide +kernel
theorem dX9_findBox_60 : decode cX9_findBox 60 = .ok (.iaload, 1) := by decide +kernel
theorem dX9_findBox_61 : decode cX9_findBox 61 = .ok (.invokestatic 52, 3) := by decide +kernel
theorem dX9_findBox_64 : decode cX9_findBox 64 = .ok (.putfield 22, 3) := by decide +kernel
theorem dX9_findBox_67 : decode cX9_findBox 67 = .ok (.aload_n 0, 1) := by decide +kernel
theorem dX9_findBox_68 : decode cX9_findBox 68 = .ok (.aload_n 0, 1) := by decide +kernel
theorem dX9_findBox_69 : decode cX9_findBox 69 = .ok (.getfield 25, 3) := by decide +kernel
theorem dX9_findBox_72 : decode cX9_findBox 72 = .ok (.aload_n 0, 1) := by decide +kernel
theorem dX9_findBox_73 : decode cX9_findBox 73 = .ok (.getfield 9, 3) := by decide +kernel
theorem dX9_findBox_76 : decode cX9_findBox 76 = .ok (.iload_n 1, 1) := by decide +kernel
theorem dX9_findBox_77 : decode cX9_findBox 77 = .ok (.iaload, 1) := by decide +kernel
theorem dX9_findBox_78 : decode cX9_findBox 78 = .ok (.invokestatic 55, 3) := by decide +kernel
theorem dX9_findBox_81 : decode cX9_findBox 81 = .ok (.putfield 25, 3) := by decide +kernel
theorem dX9_findBox_84 : decode cX9_findBox 84 = .ok (.aload_n 0, 1) := by decide +kernel
theorem dX9_findBox_85 : decode cX9_findBox 85 = .ok (.aload_n 0, 1) := by decide +kernel
theorem dX9_findBox_86 : decode cX9_findBox 86 = .ok (.getfield 28, 3) := by decide +kernel
theorem dX9_findBox_89 : decode cX9_findBox 89 = .ok (.aload_n 0, 1) := by decide +kernel
theorem dX9_findBox_90 : decode cX9_findBox 90 = .ok (.getfield 15, 3) := by decide +kernel
theorem dX9_findBox_93 : decode cX9_findBox 93 = .ok (.iload_n 1, 1) := by decide +kernel
theorem dX9_findBox_94 : decode cX9_findBox 94 = .ok (.iaload, 1) := by decide +kernel
theorem dX9_findBox_95 : decode cX9_findBox 95 = .ok (.invokestatic 52, 3) := by decide +kernel
theorem dX9_findBox_98 : decode cX9_findBox 98 = .ok (.putfield 28, 3) := by decide +kernel
theorem dX9_findBox_101 : decode cX9_findBox 101 = .ok (.aload_n 0, 1) := by decide +kernel
theorem dX9_findBox_102 : decode cX9_findBox 102 = .ok (.aload_n 0, 1) := by decide +kernel
theorem dX9_findBox_103 : decode cX9_findBox 103 = .ok (.getfield 31, 3) := by decide +kernel
theorem dX9_findBox_106 : decode cX9_findBox 106 = .ok (.aload_n 0, 1) := by decide +kernel
theorem dX9_findBox_107 : decode cX9_findBox 107 = .ok (.getfield 15, 3) := by decide +kernel
theorem dX9_findBox_110 : decode cX9_findBox 110 = .ok (.iload_n 1, 1) := by decide +kernel
theorem dX9_findBox_111 : decode cX9_findBox 111 = .ok (.iaload, 1) := by decide +kernel
theorem dX9_findBox_112 : decode cX9_findBox 112 = .ok (.invokestatic 55, 3) := by decide +kernel
theorem dX9_findBox_115 : decode cX9_findBox 115 = .ok (.putfield 31, 3) := by decide +kernel
theorem dX9_findBox_118 : decode cX9_findBox 118 = .ok (.iinc 1 1, 3) := by decide +kernel
theorem dX9_findBox_121 : decode cX9_findBox 121 = .ok (.goto (-79), 3) := by decide +kernel
theorem dX9_findBox_124 : decode cX9_findBox 124 = .ok (.return_, 1) := by decide +kernel
theorem dX9_isInside_0 : decode cX9_isInside 0 = .ok (.iload_n 3, 1) := by decide +kernel
theorem dX9_isInside_1 : decode cX9_isInside 1 = .ok (.aload_n 0, 1) := by decide +kernel
theorem dX9_isInside_2 : decode cX9_isInside 2 = .ok (.getfield 22, 3) := by decide +kernel
theorem dX9_isInside_5 : decode cX9_isInside 5 = .ok (.iadd, 1) := by decide +kernel
theorem dX9_isInside_6 : decode cX9_isInside 6 = .ok (.ifCond .lt 38, 3) := by decide +kernel
theorem dX9_isInside_9 : decode cX9_isInside 9 = .ok (.iload_n 3, 1) := by decide +kernel
theorem dX9_isInside_10 : decode cX9_isInside 10 = .ok (.aload_n 0, 1) := by decide +kernel
theorem dX9_isInside_11 : decode cX9_isInside 11 = .ok (.getfield 25, 3) := by decide +kernel
theorem dX9_isInside_14 : decode cX9_isInside 14 = .ok (.iadd, 1) := by decide +kernel
theorem dX9_isInside_15 : decode cX9_isInside 15 = .ok (.iload_n 1, 1) := by decide +kernel
theorem dX9_isInside_16 : decode cX9_isInside 16 = .ok (.if_icmp .ge 28, 3) := by decide +kernel
theorem dX9_isInside_19 : decode cX9_isInside 19 = .ok (.iload 4, 2) := by decide +kernel
theorem dX9_isInside_21 : decode cX9_isInside 21 = .ok (.aload_n 0, 1) := by decide +kernel
end
section
theorem dX9_isInside_22 : decode cX9_isInside 22 = .ok (.getfield 28, 3) := by decide +kernel
theorem dX9_isInside_25 : decode cX9_isInside 25 = .ok (.iadd, 1) := by decide +kernel
theorem dX9_isInside_26 : decode cX9_isInside 26 = .ok (.ifCond .lt 18, 3) := by decide +kernel
theorem dX9_isInside_29 : decode cX9_isInside 29 = .ok (.iload 4, 2) := by decide +kernel
theorem dX9_isInside_31 : decode cX9_isInside 31 = .ok (.aload_n 0, 1) := by decide +kernel
theorem dX9_isInside_32 : decode cX9_isInside 32 = .ok (.getfield 31, 3) := by decide +kernel
theorem dX9_isInside_35 : decode cX9_isInside 35 = .ok (.iadd, 1) := by decide +kernel
theorem dX9_isInside_36 : decode cX9_isInside 36 = .ok (.iload_n 2, 1) := by decide +kernel
theorem dX9_isInside_37 : decode cX9_isInside 37 = .ok (.if_icmp .ge 7, 3) := by decide +kernel
theorem dX9_isInside_40 : decode cX9_isInside 40 = .ok (.iconst 1, 1) := by decide +kernel
theorem dX9_isInside_41 : decode cX9_isInside 41 = .ok (.goto 4, 3) := by decide +kernel
theorem dX9_isInside_44 : decode cX9_isInside 44 = .ok (.iconst 0, 1) := by decide +kernel
theorem dX9_isInside_45 : decode cX9_isInside 45 = .ok (.ireturn, 1) := by decide +kernel
theorem dX10_init_0 : decode cX10_init 0 = .ok (.aload_n 0, 1) := by decide +kernel
theorem dX10_init_1 : decode cX10_init 1 = .ok (.invokespecial 3, 3) := by decide +kernel
theorem dX10_init_4 : decode cX10_init 4 = .ok (.aload_n 0, 1) := by decide +kernel
theorem dX10_init_5 : decode cX10_init 5 = .ok (.bipush 11, 2) := by decide +kernel
theorem dX10_init_7 : decode cX10_init 7 = .ok (.newarray .int, 2) := by decide +kernel
theorem dX10_init_9 : decode cX10_init 9 = .ok (.putfield 9, 3) := by decide +kernel
theorem dX10_init_12 : decode cX10_init 12 = .ok (.return_, 1) := by decide +kernel
theorem dX10_seek_0 : decode cX10_seek 0 = .ok (.iconst 0, 1) := by decide +kernel
theorem dX10_seek_1 : decode cX10_seek 1 = .ok (.istore 6, 2) := by decide +kernel
theorem dX10_seek_3 : decode cX10_seek 3 = .ok (.iconst 0, 1) := by decide +kernel
theorem dX10_seek_4 : decode cX10_seek 4 = .ok (.istore 7, 2) := by decide +kernel
theorem dX10_seek_6 : decode cX10_seek 6 = .ok (.iload 7, 2) := by decide +kernel
theorem dX10_seek_8 : decode cX10_seek 8 = .ok (.bipush 11, 2) := by decide +kernel
theorem dX10_seek_10 : decode cX10_seek 10 = .ok (.if_icmp .ge 81, 3) := by decide +kernel
theorem dX10_seek_13 : decode cX10_seek 13 = .ok (.aload_n 0, 1) := by decide +kernel
theorem dX10_seek_14 : decode cX10_seek 14 = .ok (.getfield 9, 3) := by decide +kernel
theorem dX10_seek_17 : decode cX10_seek 17 = .ok (.iload 7, 2) := by decide +kernel
theorem dX10_seek_19 : decode cX10_seek 19 = .ok (.iconst 0, 1) := by decide +kernel
theorem dX10_seek_20 : decode cX10_seek 20 = .ok (.iastore, 1) := by decide +kernel
theorem dX10_seek_21 : decode cX10_seek 21 = .ok (.iconst 0, 1) := by decide +kernel
theorem dX10_seek_22 : decode cX10_seek 22 = .ok (.istore 8, 2) := by decide +kernel
theorem dX10_seek_24 : decode cX10_seek 24 = .ok (.iload 8, 2) := by decide +kernel
theorem dX10_seek_26 : decode cX10_seek 26 = .ok (.bipush 11, 2) := by decide +kernel
theorem dX10_seek_28 : decode cX10_seek 28 = .ok (.if_icmp .ge 57, 3) := by decide +kernel
theorem dX10_seek_31 : decode cX10_seek 31 = .ok (.aload_n 1, 1) := by decide +kernel
theorem dX10_seek_32 : decode cX10_seek 32 = .ok (.iload 8, 2) := by decide +kernel
theorem dX10_seek_34 : decode cX10_seek 34 = .ok (.iload 7, 2) := by decide +kernel
theorem dX10_seek_36 : decode cX10_seek 36 = .ok (.invokevirtual 15, 3) := by decide +kernel
theorem dX10_seek_39 : decode cX10_seek 39 = .ok (.iconst 1, 1) := by decide +kernel
theorem dX10_seek_40 : decode cX10_seek 40 = .ok (.if_icmp .ne 39, 3) := by decide +kernel
theorem dX10_seek_43 : decode cX10_seek 43 = .ok (.aload_n 1, 1) := by decide +kernel
theorem dX10_seek_44 : decode cX10_seek 44 = .ok (.aload_n 2, 1) := by decide +kernel
theorem dX10_seek_45 : decode cX10_seek 45 = .ok (.iload 8, 2) := by decide +kernel
theorem dX10_seek_47 : decode cX10_seek 47 = .ok (.iload_n 3, 1) := by decide +kernel
theorem dX10_seek_48 : decode cX10_seek 48 = .ok (.isub, 1) := by decide +kernel
theorem dX10_seek_49 : decode cX10_seek 49 = .ok (.iload 7, 2) := by decide +kernel
theorem dX10_seek_51 : decode cX10_seek 51 = .ok (.iload 4, 2) := by decide +kernel
theorem dX10_seek_53 : decode cX10_seek 53 = .ok (.isub, 1) := by decide +kernel
theorem dX10_seek_54 : decode cX10_seek 54 = .ok (.iload 5, 2) := by decide +kernel
theorem dX10_seek_56 : decode cX10_seek 56 = .ok (.invokestatic 21, 3) := by decide +kernel
theorem dX10_seek_59 : decode cX10_seek 59 = .ok (.ifCond .eq 20, 3) := by decide +kernel
theorem dX10_seek_62 : decode cX10_seek 62 = .ok (.aload_n 0, 1) := by decide +kernel
theorem dX10_seek_63 : decode cX10_seek 63 = .ok (.getfield 9, 3) := by decide +kernel
theorem dX10_seek_66 : decode cX10_seek 66 = .ok (.iload 7, 2) := by decide +kernel
theorem dX10_seek_68 : decode cX10_seek 68 = .ok (.dup2, 1) := by decide +kernel
theorem dX10_seek_69 : decode cX10_seek 69 = .ok (.iaload, 1) := by decide +kernel
theorem dX10_seek_70 : decode cX10_seek 70 = .ok (.iconst 1, 1) := by decide +kernel
theorem dX10_seek_71 : decode cX10_seek 71 = .ok (.iload 8, 2) := by decide +kernel
theorem dX10_seek_73 : decode cX10_seek 73 = .ok (.ishl, 1) := by decide +kernel
theorem dX10_seek_74 : decode cX10_seek 74 = .ok (.ior, 1) := by decide +kernel
theorem dX10_seek_75 : decode cX10_seek 75 = .ok (.iastore, 1) := by decide +kernel
theorem dX10_seek_76 : decode cX10_seek 76 = .ok (.iinc 6 1, 3) := by decide +kernel
theorem dX10_seek_79 : decode cX10_seek 79 = .ok (.iinc 8 1, 3) := by decide +kernel
theorem dX10_seek_82 : decode cX10_seek 82 = .ok (.goto (-58), 3) := by decide +kernel
theorem dX10_seek_85 : decode cX10_seek 85 = .ok (.iinc 7 1, 3) := by decide +kernel
theorem dX10_seek_88 : decode cX10_seek 88 = .ok (.goto (-82), 3) := by decide +kernel
theorem dX10_seek_91 : decode cX10_seek 91 = .ok (.iload 6, 2) := by decide +kernel
theorem dX10_seek_93 : decode cX10_seek 93 = .ok (.ireturn, 1) := by decide +kernel
theorem dX10_isNear_0 : decode cX10_isNear 0 = .ok (.iconst 0, 1) := by decide +kernel
theorem dX10_isNear_1 : decode cX10_isNear 1 = .ok (.istore 5, 2) := by decide +kernel
theorem dX10_isNear_3 : decode cX10_isNear 3 = .ok (.iload 5, 2) := by decide +kernel
theorem dX10_isNear_5 : decode cX10_isNear 5 = .ok (.aload_n 1, 1) := by decide +kernel
theorem dX10_isNear_6 : decode cX10_isNear 6 = .ok (.getfield 25, 3) := by decide +kernel
theorem dX10_isNear_9 : decode cX10_isNear 9 = .ok (.if_icmp .ge 38, 3) := by decide +kernel
theorem dX10_isNear_12 : decode cX10_isNear 12 = .ok (.aload_n 0, 1) := by decide +kernel
theorem dX10_isNear_13 : decode cX10_isNear 13 = .ok (.iload_n 2, 1) := by decide +kernel
theorem dX10_isNear_14 : decode cX10_isNear 14 = .ok (.aload_n 1, 1) := by decide +kernel
theorem dX10_isNear_15 : decode cX10_isNear 15 = .ok (.getfield 31, 3) := by decide +kernel
theorem dX10_isNear_18 : decode cX10_isNear 18 = .ok (.iload 5, 2) := by decide +kernel
theorem dX10_isNear_20 : decode cX10_isNear 20 = .ok (.iaload, 1) := by decide +kernel
theorem dX10_isNear_21 : decode cX10_isNear 21 = .ok (.isub, 1) := by decide +kernel
theorem dX10_isNear_22 : decode cX10_isNear 22 = .ok (.iload_n 3, 1) := by decide +kernel
theorem dX10_isNear_23 : decode cX10_isNear 23 = .ok (.aload_n 1, 1) := by decide +kernel
theorem dX10_isNear_24 : decode cX10_isNear 24 = .ok (.getfield 34, 3) := by decide +kernel
theorem dX10_isNear_27 : decode cX10_isNear 27 = .ok (.iload 5, 2) := by decide +kernel
theorem dX10_isNear_29 : decode cX10_isNear 29 = .ok (.iaload, 1) := by decide +kernel
theorem dX10_isNear_30 : decode cX10_isNear 30 = .ok (.isub, 1) := by decide +kernel
theorem dX10_isNear_31 : decode cX10_isNear 31 = .ok (.invokevirtual 37, 3) := by decide +kernel
theorem dX10_isNear_34 : decode cX10_isNear 34 = .ok (.iload 4, 2) := by decide +kernel
theorem dX10_isNear_36 : decode cX10_isNear 36 = .ok (.if_icmp .gt 5, 3) := by decide +kernel
theorem dX10_isNear_39 : decode cX10_isNear 39 = .ok (.iconst 1, 1) := by decide +kernel
theorem dX10_isNear_40 : decode cX10_isNear 40 = .ok (.ireturn, 1) := by decide +kernel
theorem dX10_isNear_41 : decode cX10_isNear 41 = .ok (.iinc 5 1, 3) := by decide +kernel
theorem dX10_isNear_44 : decode cX10_isNear 44 = .ok (.goto (-41), 3) := by decide +kernel
theorem dX10_isNear_47 : decode cX10_isNear 47 = .ok (.iconst 0, 1) := by decide +kernel
theorem dX10_isNear_48 : decode cX10_isNear 48 = .ok (.ireturn, 1) := by decide +kernel
theorem dX11_init_0 : decode cX11_init 0 = .ok (.aload_n 0, 1) := by decide +kernel
theorem dX11_init_1 : decode cX11_init 1 = .ok (.invokespecial 1, 3) := by decide +kernel
theorem dX11_init_4 : decode cX11_init 4 = .ok (.aload_n 0, 1) := by decide +kernel
theorem dX11_init_5 : decode cX11_init 5 = .ok (.new 7, 3) := by decide +kernel
theorem dX11_init_8 : decode cX11_init 8 = .ok (.dup, 1) := by decide +kernel
theorem dX11_init_9 : decode cX11_init 9 = .ok (.invokespecial 9, 3) := by decide +kernel
theorem dX11_init_12 : decode cX11_init 12 = .ok (.putfield 10, 3) := by decide +kernel
theorem dX11_init_15 : decode cX11_init 15 = .ok (.aload_n 0, 1) := by decide +kernel
theorem dX11_init_16 : decode cX11_init 16 = .ok (.new 16, 3) := by decide +kernel
theorem dX11_init_19 : decode cX11_init 19 = .ok (.dup, 1) := by decide +kernel
theorem dX11_init_20 : decode cX11_init 20 = .ok (.invokespecial 18, 3) := by decide +kernel
theorem dX11_init_23 : decode cX11_init 23 = .ok (.putfield 19, 3) := by decide +kernel
theorem dX11_init_26 : decode cX11_init 26 = .ok (.aload_n 0, 1) := by decide +kernel
theorem dX11_init_27 : decode cX11_init 27 = .ok (.new 23, 3) := by decide +kernel
theorem dX11_init_30 : decode cX11_init 30 = .ok (.dup, 1) := by decide +kernel
theorem dX11_init_31 : decode cX11_init 31 = .ok (.invokespecial 25, 3) := by decide +kernel
theorem dX11_init_34 : decode cX11_init 34 = .ok (.putfield 26, 3) := by decide +kernel
theorem dX11_init_37 : decode cX11_init 37 = .ok (.aload_n 0, 1) := by decide +kernel
theorem dX11_init_38 : decode cX11_init 38 = .ok (.new 30, 3) := by decide +kernel
theorem dX11_init_41 : decode cX11_init 41 = .ok (.dup, 1) := by decide +kernel
theorem dX11_init_42 : decode cX11_init 42 = .ok (.invokespecial 32, 3) := by decide +kernel
theorem dX11_init_45 : decode cX11_init 45 = .ok (.putfield 33, 3) := by decide +kernel
theorem dX11_init_48 : decode cX11_init 48 = .ok (.aload_n 0, 1) := by decide +kernel
theorem dX11_init_49 : decode cX11_init 49 = .ok (.new 37, 3) := by decide +kernel
theorem dX11_init_52 : decode cX11_init 52 = .ok (.dup, 1) := by decide +kernel
theorem dX11_init_53 : decode cX11_init 53 = .ok (.invokespecial 39, 3) := by decide +kernel
theorem dX11_init_56 : decode cX11_init 56 = .ok (.putfield 40, 3) := by decide +kernel
theorem dX11_init_59 : decode cX11_init 59 = .ok (.aload_n 0, 1) := by decide +kernel
theorem dX11_init_60 : decode cX11_init 60 = .ok (.new 44, 3) := by decide +kernel
theorem dX11_init_63 : decode cX11_init 63 = .ok (.dup, 1) := by decide +kernel
theorem dX11_init_64 : decode cX11_init 64 = .ok (.invokespecial 46, 3) := by decide +kernel
theorem dX11_init_67 : decode cX11_init 67 = .ok (.putfield 47, 3) := by decide +kernel
theorem dX11_init_70 : decode cX11_init 70 = .ok (.aload_n 0, 1) := by decide +kernel
theorem dX11_init_71 : decode cX11_init 71 = .ok (.new 51, 3) := by decide +kernel
theorem dX11_init_74 : decode cX11_init 74 = .ok (.dup, 1) := by decide +kernel
theorem dX11_init_75 : decode cX11_init 75 = .ok (.invokespecial 53, 3) := by decide +kernel
theorem dX11_init_78 : decode cX11_init 78 = .ok (.putfield 54, 3) := by decide +kernel
theorem dX11_init_81 : decode cX11_init 81 = .ok (.aload_n 0, 1) := by decide +kernel
theorem dX11_init_82 : decode cX11_init 82 = .ok (.new 58, 3) := by decide +kernel
theorem dX11_init_85 : decode cX11_init 85 = .ok (.dup, 1) := by decide +kernel
theorem dX11_init_86 : decode cX11_init 86 = .ok (.invokespecial 60, 3) := by decide +kernel
theorem dX11_init_89 : decode cX11_init 89 = .ok (.putfield 61, 3) := by decide +kernel
theorem dX11_init_92 : decode cX11_init 92 = .ok (.aload_n 0, 1) := by decide +kernel
theorem dX11_init_93 : decode cX11_init 93 = .ok (.new 65, 3) := by decide +kernel
theorem dX11_init_96 : decode cX11_init 96 = .ok (.dup, 1) := by decide +kernel
theorem dX11_init_97 : decode cX11_init 97 = .ok (.invokespecial 67, 3) := by decide +kernel
theorem dX11_init_100 : decode cX11_init 100 = .ok (.putfield 68, 3) := by decide +kernel
theorem dX11_init_103 : decode cX11_init 103 = .ok (.aload_n 0, 1) := by decide +kernel
theorem dX11_init_104 : decode cX11_init 104 = .ok (.new 72, 3) := by decide +kernel
theorem dX11_init_107 : decode cX11_init 107 = .ok (.dup, 1) := by decide +kernel
theorem dX11_init_108 : decode cX11_init 108 = .ok (.invokespecial 74, 3) := by decide +kernel
theorem dX11_init_111 : decode cX11_init 111 = .ok (.putfield 75, 3) := by decide +kernel
theorem dX11_init_114 : decode cX11_init 114 = .ok (.aload_n 0, 1) := by decide +kernel
theorem dX11_init_115 : decode cX11_init 115 = .ok (.iconst 2, 1) := by decide +kernel
theorem dX11_init_116 : decode cX11_init 116 = .ok (.putfield 79, 3) := by decide +kernel
theorem dX11_init_119 : decode cX11_init 119 = .ok (.aload_n 0, 1) := by decide +kernel
theorem dX11_init_120 : decode cX11_init 120 = .ok (.iconst 0, 1) := by decide +kernel
theorem dX11_init_121 : decode cX11_init 121 = .ok (.putfield 83, 3) := by decide +kernel
theorem dX11_init_124 : decode cX11_init 124 = .ok (.aload_n 0, 1) := by decide +kernel
theorem dX11_init_125 : decode cX11_init 125 = .ok (.iconst 0, 1) := by decide +kernel
theorem dX11_init_126 : decode cX11_init 126 = .ok (.putfield 86, 3) := by decide +kernel
theorem dX11_init_129 : decode cX11_init 129 = .ok (.aload_n 0, 1) := by decide +kernel
theorem dX11_init_130 : decode cX11_init 130 = .ok (.iconst 1, 1) := by decide +kernel
theorem dX11_init_131 : decode cX11_init 131 = .ok (.putfield 89, 3) := by decide +kernel
theorem dX11_init_134 : decode cX11_init 134 = .ok (.aload_n 0, 1) := by decide +kernel
theorem dX11_init_135 : decode cX11_init 135 = .ok (.iconst 1, 1) := by decide +kernel
theorem dX11_init_136 : decode cX11_init 136 = .ok (.putfield 93, 3) := by decide +kernel
theorem dX11_init_139 : decode cX11_init 139 = .ok (.iconst 0, 1) := by decide +kernel
theorem dX11_init_140 : decode cX11_init 140 = .ok (.istore_n 1, 1) := by decide +kernel
theorem dX11_init_141 : decode cX11_init 141 = .ok (.iload_n 1, 1) := by decide +kernel
theorem dX11_init_142 : decode cX11_init 142 = .ok (.ldc 96, 2) := by decide +kernel
theorem dX11_init_144 : decode cX11_init 144 = .ok (.invokevirtual 98, 3) := by decide +kernel
theorem dX11_init_147 : decode cX11_init 147 = .ok (.if_icmp .ge 23, 3) := by decide +kernel
theorem dX11_init_150 : decode cX11_init 150 = .ok (.aload_n 0, 1) := by decide +kernel
theorem dX11_init_151 : decode cX11_init 151 = .ok (.getfield 10, 3) := by decide +kernel
theorem dX11_init_154 : decode cX11_init 154 = .ok (.ldc 96, 2) := by decide +kernel
theorem dX11_init_156 : decode cX11_init 156 = .ok (.iload_n 1, 1) := by decide +kernel
theorem dX11_init_157 : decode cX11_init 157 = .ok (.invokevirtual 104, 3) := by decide +kernel
theorem dX11_init_160 : decode cX11_init 160 = .ok (.invokevirtual 108, 3) := by decide +kernel
theorem dX11_init_163 : decode cX11_init 163 = .ok (.pop, 1) := by decide +kernel
theorem dX11_init_164 : decode cX11_init 164 = .ok (.iinc 1 1, 3) := by decide +kernel
theorem dX11_init_167 : decode cX11_init 167 = .ok (.goto (-26), 3) := by decide +kernel
theorem dX11_init_170 : decode cX11_init 170 = .ok (.aload_n 0, 1) := by decide +kernel
theorem dX11_init_171 : decode cX11_init 171 = .ok (.getfield 19, 3) := by decide +kernel
theorem dX11_init_174 : decode cX11_init 174 = .ok (.aload_n 0, 1) := by decide +kernel
theorem dX11_init_175 : decode cX11_init 175 = .ok (.getfield 10, 3) := by decide +kernel
theorem dX11_init_178 : decode cX11_init 178 = .ok (.invokevirtual 112, 3) := by decide +kernel
theorem dX11_init_181 : decode cX11_init 181 = .ok (.bipush (-4), 2) := by decide +kernel
theorem dX11_init_183 : decode cX11_init 183 = .ok (.if_icmp .ne 17, 3) := by decide +kernel
theorem dX11_init_186 : decode cX11_init 186 = .ok (.aload_n 0, 1) := by decide +kernel
theorem dX11_init_187 : decode cX11_init 187 = .ok (.getfield 26, 3) := by decide +kernel
theorem dX11_init_190 : decode cX11_init 190 = .ok (.aload_n 0, 1) := by decide +kernel
theorem dX11_init_191 : decode cX11_init 191 = .ok (.getfield 19, 3) := by decide +kernel
theorem dX11_init_194 : decode cX11_init 194 = .ok (.getfield 116, 3) := by decide +kernel
theorem dX11_init_197 : decode cX11_init 197 = .ok (.invokevirtual 117, 3) := by decide +kernel
theorem dX11_init_200 : decode cX11_init 200 = .ok (.aload_n 0, 1) := by decide +kernel
theorem dX11_init_201 : decode cX11_init 201 = .ok (.getfield 10, 3) := by decide +kernel
theorem dX11_init_204 : decode cX11_init 204 = .ok (.iconst 0, 1) := by decide +kernel
theorem dX11_init_205 : decode cX11_init 205 = .ok (.putfield 121, 3) := by decide +kernel
theorem dX11_init_208 : decode cX11_init 208 = .ok (.return_, 1) := by decide +kernel
theorem dX11_write_0 : decode cX11_write 0 = .ok (.iload_n 1, 1) := by decide +kernel
theorem dX11_write_1 : decode cX11_write 1 = .ok (.bipush 32, 2) := by decide +kernel
theorem dX11_write_3 : decode cX11_write 3 = .ok (.if_icmp .lt 9, 3) := by decide +kernel
theorem dX11_write_6 : decode cX11_write 6 = .ok (.iload_n 1, 1) := by decide +kernel
theorem dX11_write_7 : decode cX11_write 7 = .ok (.bipush 126, 2) := by decide +kernel
theorem dX11_write_9 : decode cX11_write 9 = .ok (.if_icmp .le 5, 3) := by decide +kernel
theorem dX11_write_12 : decode cX11_write 12 = .ok (.iconst (-1), 1) := by decide +kernel
theorem dX11_write_13 : decode cX11_write 13 = .ok (.ireturn, 1) := by decide +kernel
theorem dX11_write_14 : decode cX11_write 14 = .ok (.aload_n 0, 1) := by decide +kernel
theorem dX11_write_15 : decode cX11_write 15 = .ok (.getfield 10, 3) := by decide +kernel
theorem dX11_write_18 : decode cX11_write 18 = .ok (.iload_n 1, 1) := by decide +kernel
theorem dX11_write_19 : decode cX11_write 19 = .ok (.i2c, 1) := by decide +kernel
theorem dX11_write_20 : decode cX11_write 20 = .ok (.invokevirtual 108, 3) := by decide +kernel
theorem dX11_write_23 : decode cX11_write 23 = .ok (.ifCond .eq 13, 3) := by decide +kernel
theorem dX11_write_26 : decode cX11_write 26 = .ok (.aload_n 0, 1) := by decide +kernel
theorem dX11_write_27 : decode cX11_write 27 = .ok (.getfield 10, 3) := by decide +kernel
theorem dX11_write_30 : decode cX11_write 30 = .ok (.getfield 121, 3) := by decide +kernel
theorem dX11_write_33 : decode cX11_write 33 = .ok (.goto 5, 3) := by decide +kernel
theorem dX11_write_36 : decode cX11_write 36 = .ok (.bipush (-3), 2) := by decide +kernel
theorem dX11_write_38 : decode cX11_write 38 = .ok (.ireturn, 1) := by decide +kernel
theorem dX11_wipe_0 : decode cX11_wipe 0 = .ok (.aload_n 0, 1) := by decide +kernel
theorem dX11_wipe_1 : decode cX11_wipe 1 = .ok (.getfield 10, 3) := by decide +kernel
theorem dX11_wipe_4 : decode cX11_wipe 4 = .ok (.getfield 121, 3) := by decide +kernel
theorem dX11_wipe_7 : decode cX11_wipe 7 = .ok (.istore_n 1, 1) := by decide +kernel
theorem dX11_wipe_8 : decode cX11_wipe 8 = .ok (.aload_n 0, 1) := by decide +kernel
theorem dX11_wipe_9 : decode cX11_wipe 9 = .ok (.getfield 10, 3) := by decide +kernel
theorem dX11_wipe_12 : decode cX11_wipe 12 = .ok (.iconst 0, 1) := by decide +kernel
theorem dX11_wipe_13 : decode cX11_wipe 13 = .ok (.putfield 121, 3) := by decide +kernel
theorem dX11_wipe_16 : decode cX11_wipe 16 = .ok (.iload_n 1, 1) := by decide +kernel
theorem dX11_wipe_17 : decode cX11_wipe 17 = .ok (.ireturn, 1) := by decide +kernel
theorem dX11_fault_0 : decode cX11_fault 0 = .ok (.aload_n 0, 1) := by decide +kernel
theorem dX11_fault_1 : decode cX11_fault 1 = .ok (.getfield 19, 3) := by decide +kernel
theorem dX11_fault_4 : decode cX11_fault 4 = .ok (.aload_n 0, 1) := by decide +kernel
theorem dX11_fault_5 : decode cX11_fault 5 = .ok (.getfield 10, 3) := by decide +kernel
theorem dX11_fault_8 : decode cX11_fault 8 = .ok (.invokevirtual 112, 3) := by decide +kernel
theorem dX11_fault_11 : decode cX11_fault 11 = .ok (.ireturn, 1) := by decide +kernel
theorem dX11_lay_0 : decode cX11_lay 0 = .ok (.aload_n 0, 1) := by decide +kernel
theorem dX11_lay_1 : decode cX11_lay 1 = .ok (.getfield 19, 3) := by decide +kernel
theorem dX11_lay_4 : decode cX11_lay 4 = .ok (.aload_n 0, 1) := by decide +kernel
theorem dX11_lay_5 : decode cX11_lay 5 = .ok (.getfield 10, 3) := by decide +kernel
theorem dX11_lay_8 : decode cX11_lay 8 = .ok (.invokevirtual 112, 3) := by decide +kernel
theorem dX11_lay_11 : decode cX11_lay 11 = .ok (.bipush (-4), 2) := by decide +kernel
theorem dX11_lay_13 : decode cX11_lay 13 = .ok (.if_icmp .ne 26, 3) := by decide +kernel
theorem dX11_lay_16 : decode cX11_lay 16 = .ok (.aload_n 0, 1) := by decide +kernel
theorem dX11_lay_17 : decode cX11_lay 17 = .ok (.getfield 19, 3) := by decide +kernel
theorem dX11_lay_20 : decode cX11_lay 20 = .ok (.getfield 123, 3) := by decide +kernel
theorem dX11_lay_23 : decode cX11_lay 23 = .ok (.ifCond .eq 16, 3) := by decide +kernel
theorem dX11_lay_26 : decode cX11_lay 26 = .ok (.aload_n 0, 1) := by decide +kernel
theorem dX11_lay_27 : decode cX11_lay 27 = .ok (.getfield 19, 3) := by decide +kernel
theorem dX11_lay_30 : decode cX11_lay 30 = .ok (.getfield 116, 3) := by decide +kernel
theorem dX11_lay_33 : decode cX11_lay 33 = .ok (.getfield 126, 3) := by decide +kernel
theorem dX11_lay_36 : decode cX11_lay 36 = .ok (.ifCond .ne 6, 3) := by decide +kernel
theorem dX11_lay_39 : decode cX11_lay 39 = .ok (.bipush (-2), 2) := by decide +kernel
theorem dX11_lay_41 : decode cX11_lay 41 = .ok (.ireturn, 1) := by decide +kernel
theorem dX11_lay_42 : decode cX11_lay 42 = .ok (.aload_n 0, 1) := by decide +kernel
theorem dX11_lay_43 : decode cX11_lay 43 = .ok (.getfield 26, 3) := by decide +kernel
theorem dX11_lay_46 : decode cX11_lay 46 = .ok (.aload_n 0, 1) := by decide +kernel
theorem dX11_lay_47 : decode cX11_lay 47 = .ok (.getfield 19, 3) := by decide +kernel
theorem dX11_lay_50 : decode cX11_lay 50 = .ok (.getfield 116, 3) := by decide +kernel
theorem dX11_lay_53 : decode cX11_lay 53 = .ok (.invokevirtual 117, 3) := by decide +kernel
theorem dX11_lay_56 : decode cX11_lay 56 = .ok (.aload_n 0, 1) := by decide +kernel
theorem dX11_lay_57 : decode cX11_lay 57 = .ok (.getfield 33, 3) := by decide +kernel
theorem dX11_lay_60 : decode cX11_lay 60 = .ok (.iconst 0, 1) := by decide +kernel
theorem dX11_lay_61 : decode cX11_lay 61 = .ok (.putfield 129, 3) := by decide +kernel
theorem dX11_lay_64 : decode cX11_lay 64 = .ok (.aload_n 0, 1) := by decide +kernel
theorem dX11_lay_65 : decode cX11_lay 65 = .ok (.getfield 40, 3) := by decide +kernel
theorem dX11_lay_68 : decode cX11_lay 68 = .ok (.iconst 0, 1) := by decide +kernel
theorem dX11_lay_69 : decode cX11_lay 69 = .ok (.putfield 132, 3) := by decide +kernel
theorem dX11_lay_72 : decode cX11_lay 72 = .ok (.aload_n 0, 1) := by decide +kernel
theorem dX11_lay_73 : decode cX11_lay 73 = .ok (.iconst 2, 1) := by decide +kernel
theorem dX11_lay_74 : decode cX11_lay 74 = .ok (.iconst 0, 1) := by decide +kernel
theorem dX11_lay_75 : decode cX11_lay 75 = .ok (.iconst 0, 1) := by decide +kernel
theorem dX11_lay_76 : decode cX11_lay 76 = .ok (.invokevirtual 133, 3) := by decide +kernel
theorem dX11_lay_79 : decode cX11_lay 79 = .ok (.aload_n 0, 1) := by decide +kernel
theorem dX11_lay_80 : decode cX11_lay 80 = .ok (.invokevirtual 137, 3) := by decide +kernel
theorem dX11_lay_83 : decode cX11_lay 83 = .ok (.aload_n 0, 1) := by decide +kernel
theorem dX11_lay_84 : decode cX11_lay 84 = .ok (.getfield 26, 3) := by decide +kernel
theorem dX11_lay_87 : decode cX11_lay 87 = .ok (.invokevirtual 140, 3) := by decide +kernel
theorem dX11_lay_90 : decode cX11_lay 90 = .ok (.ireturn, 1) := by decide +kernel
theorem dX11_edge_0 : decode cX11_edge 0 = .ok (.aload_n 0, 1) := by decide +kernel
theorem dX11_edge_1 : decode cX11_edge 1 = .ok (.getfield 26, 3) := by decide +kernel
theorem dX11_edge_4 : decode cX11_edge 4 = .ok (.iload_n 1, 1) := by decide +kernel
theorem dX11_edge_5 : decode cX11_edge 5 = .ok (.iload_n 2, 1) := by decide +kernel
theorem dX11_edge_6 : decode cX11_edge 6 = .ok (.invokevirtual 143, 3) := by decide +kernel
theorem dX11_edge_9 : decode cX11_edge 9 = .ok (.ifCond .eq 12, 3) := by decide +kernel
theorem dX11_edge_12 : decode cX11_edge 12 = .ok (.iconst 0, 1) := by decide +kernel
theorem dX11_edge_13 : decode cX11_edge 13 = .ok (.iload_n 3, 1) := by decide +kernel
theorem dX11_edge_14 : decode cX11_edge 14 = .ok (.iconst 1, 1) := by decide +kernel
theorem dX11_edge_15 : decode cX11_edge 15 = .ok (.invokestatic 147, 3) := by decide +kernel
theorem dX11_edge_18 : decode cX11_edge 18 = .ok (.ifCond .ne 5, 3) := by decide +kernel
theorem dX11_edge_21 : decode cX11_edge 21 = .ok (.iconst (-1), 1) := by decide +kernel
theorem dX11_edge_22 : decode cX11_edge 22 = .ok (.ireturn, 1) := by decide +kernel
theorem dX11_edge_23 : decode cX11_edge 23 = .ok (.aload_n 0, 1) := by decide +kernel
theorem dX11_edge_24 : decode cX11_edge 24 = .ok (.getfield 26, 3) := by decide +kernel
theorem dX11_edge_27 : decode cX11_edge 27 = .ok (.iload_n 1, 1) := by decide +kernel
theorem dX11_edge_28 : decode cX11_edge 28 = .ok (.iload_n 2, 1) := by decide +kernel
theorem dX11_edge_29 : decode cX11_edge 29 = .ok (.invokevirtual 151, 3) := by decide +kernel
theorem dX11_edge_32 : decode cX11_edge 32 = .ok (.iload_n 3, 1) := by decide +kernel
theorem dX11_edge_33 : decode cX11_edge 33 = .ok (.if_icmp .ne 6, 3) := by decide +kernel
theorem dX11_edge_36 : decode cX11_edge 36 = .ok (.bipush (-2), 2) := by decide +kernel
theorem dX11_edge_38 : decode cX11_edge 38 = .ok (.ireturn, 1) := by decide +kernel
theorem dX11_edge_39 : decode cX11_edge 39 = .ok (.aload_n 0, 1) := by decide +kernel
theorem dX11_edge_40 : decode cX11_edge 40 = .ok (.invokevirtual 155, 3) := by decide +kernel
theorem dX11_edge_43 : decode cX11_edge 43 = .ok (.aload_n 0, 1) := by decide +kernel
theorem dX11_edge_44 : decode cX11_edge 44 = .ok (.getfield 26, 3) := by decide +kernel
theorem dX11_edge_47 : decode cX11_edge 47 = .ok (.iload_n 1, 1) := by decide +kernel
theorem dX11_edge_48 : decode cX11_edge 48 = .ok (.iload_n 2, 1) := by decide +kernel
theorem dX11_edge_49 : decode cX11_edge 49 = .ok (.invokevirtual 158, 3) := by decide +kernel
theorem dX11_edge_52 : decode cX11_edge 52 = .ok (.aload_n 0, 1) := by decide +kernel
theorem dX11_edge_53 : decode cX11_edge 53 = .ok (.getfield 26, 3) := by decide +kernel
theorem dX11_edge_56 : decode cX11_edge 56 = .ok (.invokevirtual 140, 3) := by decide +kernel
theorem dX11_edge_59 : decode cX11_edge 59 = .ok (.ireturn, 1) := by decide +kernel
theorem dX11_dot_0 : decode cX11_dot 0 = .ok (.bipush (-5), 2) := by decide +kernel
theorem dX11_dot_2 : decode cX11_dot 2 = .ok (.iload_n 1, 1) := by decide +kernel
theorem dX11_dot_3 : decode cX11_dot 3 = .ok (.iconst 5, 1) := by decide +kernel
theorem dX11_dot_4 : decode cX11_dot 4 = .ok (.invokestatic 147, 3) := by decide +kernel
theorem dX11_dot_7 : decode cX11_dot 7 = .ok (.ifCond .eq 13, 3) := by decide +kernel
theorem dX11_dot_10 : decode cX11_dot 10 = .ok (.bipush (-5), 2) := by decide +kernel
theorem dX11_dot_12 : decode cX11_dot 12 = .ok (.iload_n 2, 1) := by decide +kernel
theorem dX11_dot_13 : decode cX11_dot 13 = .ok (.iconst 5, 1) := by decide +kernel
theorem dX11_dot_14 : decode cX11_dot 14 = .ok (.invokestatic 147, 3) := by decide +kernel
theorem dX11_dot_17 : decode cX11_dot 17 = .ok (.ifCond .ne 5, 3) := by decide +kernel
theorem dX11_dot_20 : decode cX11_dot 20 = .ok (.iconst (-1), 1) := by decide +kernel
theorem dX11_dot_21 : decode cX11_dot 21 = .ok (.ireturn, 1) := by decide +kernel
theorem dX11_dot_22 : decode cX11_dot 22 = .ok (.aload_n 0, 1) := by decide +kernel
theorem dX11_dot_23 : decode cX11_dot 23 = .ok (.getfield 26, 3) := by decide +kernel
theorem dX11_dot_26 : decode cX11_dot 26 = .ok (.iload_n 1, 1) := by decide +kernel
theorem dX11_dot_27 : decode cX11_dot 27 = .ok (.iload_n 2, 1) := by decide +kernel
theorem dX11_dot_28 : decode cX11_dot 28 = .ok (.invokevirtual 162, 3) := by decide +kernel
theorem dX11_dot_31 : decode cX11_dot 31 = .ok (.ifCond .eq 6, 3) := by decide +kernel
theorem dX11_dot_34 : decode cX11_dot 34 = .ok (.bipush (-2), 2) := by decide +kernel
theorem dX11_dot_36 : decode cX11_dot 36 = .ok (.ireturn, 1) := by decide +kernel
theorem dX11_dot_37 : decode cX11_dot 37 = .ok (.aload_n 0, 1) := by decide +kernel
theorem dX11_dot_38 : decode cX11_dot 38 = .ok (.getfield 26, 3) := by decide +kernel
theorem dX11_dot_41 : decode cX11_dot 41 = .ok (.getfield 126, 3) := by decide +kernel
theorem dX11_dot_44 : decode cX11_dot 44 = .ok (.bipush 10, 2) := by decide +kernel
theorem dX11_dot_46 : decode cX11_dot 46 = .ok (.if_icmp .lt 6, 3) := by decide +kernel
theorem dX11_dot_49 : decode cX11_dot 49 = .ok (.bipush (-3), 2) := by decide +kernel
theorem dX11_dot_51 : decode cX11_dot 51 = .ok (.ireturn, 1) := by decide +kernel
theorem dX11_dot_52 : decode cX11_dot 52 = .ok (.aload_n 0, 1) := by decide +kernel
theorem dX11_dot_53 : decode cX11_dot 53 = .ok (.invokevirtual 155, 3) := by decide +kernel
theorem dX11_dot_56 : decode cX11_dot 56 = .ok (.aload_n 0, 1) := by decide +kernel
theorem dX11_dot_57 : decode cX11_dot 57 = .ok (.getfield 26, 3) := by decide +kernel
theorem dX11_dot_60 : decode cX11_dot 60 = .ok (.iload_n 1, 1) := by decide +kernel
theorem dX11_dot_61 : decode cX11_dot 61 = .ok (.iload_n 2, 1) := by decide +kernel
theorem dX11_dot_62 : decode cX11_dot 62 = .ok (.invokevirtual 165, 3) := by decide +kernel
theorem dX11_dot_65 : decode cX11_dot 65 = .ok (.aload_n 0, 1) := by decide +kernel
theorem dX11_dot_66 : decode cX11_dot 66 = .ok (.getfield 26, 3) := by decide +kernel
theorem dX11_dot_69 : decode cX11_dot 69 = .ok (.getfield 126, 3) := by decide +kernel
theorem dX11_dot_72 : decode cX11_dot 72 = .ok (.iconst 1, 1) := by decide +kernel
theorem dX11_dot_73 : decode cX11_dot 73 = .ok (.isub, 1) := by decide +kernel
theorem dX11_dot_74 : decode cX11_dot 74 = .ok (.ireturn, 1) := by decide +kernel
theorem dX11_drop_0 : decode cX11_drop 0 = .ok (.aload_n 0, 1) := by decide +kernel
theorem dX11_drop_1 : decode cX11_drop 1 = .ok (.iload_n 1, 1) := by decide +kernel
theorem dX11_drop_2 : decode cX11_drop 2 = .ok (.invokevirtual 168, 3) := by decide +kernel
theorem dX11_drop_5 : decode cX11_drop 5 = .ok (.ifCond .ne 5, 3) := by decide +kernel
theorem dX11_drop_8 : decode cX11_drop 8 = .ok (.iconst (-1), 1) := by decide +kernel
theorem dX11_drop_9 : decode cX11_drop 9 = .ok (.ireturn, 1) := by decide +kernel
theorem dX11_drop_10 : decode cX11_drop 10 = .ok (.aload_n 0, 1) := by decide +kernel
theorem dX11_drop_11 : decode cX11_drop 11 = .ok (.getfield 26, 3) := by decide +kernel
theorem dX11_drop_14 : decode cX11_drop 14 = .ok (.getfield 126, 3) := by decide +kernel
theorem dX11_drop_17 : decode cX11_drop 17 = .ok (.iconst 1, 1) := by decide +kernel
theorem dX11_drop_18 : decode cX11_drop 18 = .ok (.if_icmp .ne 6, 3) := by decide +kernel
theorem dX11_drop_21 : decode cX11_drop 21 = .ok (.bipush (-2), 2) := by decide +kernel
theorem dX11_drop_23 : decode cX11_drop 23 = .ok (.ireturn, 1) := by decide +kernel
theorem dX11_drop_24 : decode cX11_drop 24 = .ok (.aload_n 0, 1) := by decide +kernel
theorem dX11_drop_25 : decode cX11_drop 25 = .ok (.invokevirtual 155, 3) := by decide +kernel
theorem dX11_drop_28 : decode cX11_drop 28 = .ok (.aload_n 0, 1) := by decide +kernel
theorem dX11_drop_29 : decode cX11_drop 29 = .ok (.getfield 26, 3) := by decide +kernel
theorem dX11_drop_32 : decode cX11_drop 32 = .ok (.iload_n 1, 1) := by decide +kernel
theorem dX11_drop_33 : decode cX11_drop 33 = .ok (.invokevirtual 172, 3) := by decide +kernel
theorem dX11_drop_36 : decode cX11_drop 36 = .ok (.aload_n 0, 1) := by decide +kernel
theorem dX11_drop_37 : decode cX11_drop 37 = .ok (.getfield 26, 3) := by decide +kernel
theorem dX11_drop_40 : decode cX11_drop 40 = .ok (.getfield 126, 3) := by decide +kernel
theorem dX11_drop_43 : decode cX11_drop 43 = .ok (.ireturn, 1) := by decide +kernel
theorem dX11_measure_0 : decode cX11_measure 0 = .ok (.iconst 0, 1) := by decide +kernel
theorem dX11_measure_1 : decode cX11_measure 1 = .ok (.iload_n 1, 1) := by decide +kernel
theorem dX11_measure_2 : decode cX11_measure 2 = .ok (.iconst 2, 1) := by decide +kernel
theorem dX11_measure_3 : decode cX11_measure 3 = .ok (.invokestatic 147, 3) := by decide +kernel
theorem dX11_measure_6 : decode cX11_measure 6 = .ok (.ifCond .eq 13, 3) := by decide +kernel
theorem dX11_measure_9 : decode cX11_measure 9 = .ok (.iconst 1, 1) := by decide +kernel
theorem dX11_measure_10 : decode cX11_measure 10 = .ok (.iload_n 2, 1) := by decide +kernel
theorem dX11_measure_11 : decode cX11_measure 11 = .ok (.bipush 99, 2) := by decide +kernel
theorem dX11_measure_13 : decode cX11_measure 13 = .ok (.invokestatic 147, 3) := by decide +kernel
theorem dX11_measure_16 : decode cX11_measure 16 = .ok (.ifCond .ne 5, 3) := by decide +kernel
theorem dX11_measure_19 : decode cX11_measure 19 = .ok (.iconst (-1), 1) := by decide +kernel
theorem dX11_measure_20 : decode cX11_measure 20 = .ok (.ireturn, 1) := by decide +kernel
theorem dX11_measure_21 : decode cX11_measure 21 = .ok (.aload_n 0, 1) := by decide +kernel
theorem dX11_measure_22 : decode cX11_measure 22 = .ok (.getfield 26, 3) := by decide +kernel
theorem dX11_measure_25 : decode cX11_measure 25 = .ok (.getfield 176, 3) := by decide +kernel
theorem dX11_measure_28 : decode cX11_measure 28 = .ok (.iload_n 1, 1) := by decide +kernel
theorem dX11_measure_29 : decode cX11_measure 29 = .ok (.if_icmp .ne 17, 3) := by decide +kernel
theorem dX11_measure_32 : decode cX11_measure 32 = .ok (.aload_n 0, 1) := by decide +kernel
theorem dX11_measure_33 : decode cX11_measure 33 = .ok (.getfield 26, 3) := by decide +kernel
theorem dX11_measure_36 : decode cX11_measure 36 = .ok (.getfield 179, 3) := by decide +kernel
theorem dX11_measure_39 : decode cX11_measure 39 = .ok (.iload_n 2, 1) := by decide +kernel
theorem dX11_measure_40 : decode cX11_measure 40 = .ok (.if_icmp .ne 6, 3) := by decide +kernel
theorem dX11_measure_43 : decode cX11_measure 43 = .ok (.bipush (-2), 2) := by decide +kernel
theorem dX11_measure_45 : decode cX11_measure 45 = .ok (.ireturn, 1) := by decide +kernel
theorem dX11_measure_46 : decode cX11_measure 46 = .ok (.bipush 100, 2) := by decide +kernel
theorem dX11_measure_48 : decode cX11_measure 48 = .ok (.aload_n 0, 1) := by decide +kernel
theorem dX11_measure_49 : decode cX11_measure 49 = .ok (.getfield 26, 3) := by decide +kernel
theorem dX11_measure_52 : decode cX11_measure 52 = .ok (.getfield 176, 3) := by decide +kernel
theorem dX11_measure_55 : decode cX11_measure 55 = .ok (.imul, 1) := by decide +kernel
theorem dX11_measure_56 : decode cX11_measure 56 = .ok (.aload_n 0, 1) := by decide +kernel
theorem dX11_measure_57 : decode cX11_measure 57 = .ok (.getfield 26, 3) := by decide +kernel
theorem dX11_measure_60 : decode cX11_measure 60 = .ok (.getfield 179, 3) := by decide +kernel
theorem dX11_measure_63 : decode cX11_measure 63 = .ok (.iadd, 1) := by decide +kernel
theorem dX11_measure_64 : decode cX11_measure 64 = .ok (.istore_n 3, 1) := by decide +kernel
theorem dX11_measure_65 : decode cX11_measure 65 = .ok (.aload_n 0, 1) := by decide +kernel
theorem dX11_measure_66 : decode cX11_measure 66 = .ok (.invokevirtual 155, 3) := by decide +kernel
theorem dX11_measure_69 : decode cX11_measure 69 = .ok (.aload_n 0, 1) := by decide +kernel
theorem dX11_measure_70 : decode cX11_measure 70 = .ok (.getfield 26, 3) := by decide +kernel
theorem dX11_measure_73 : decode cX11_measure 73 = .ok (.iload_n 1, 1) := by decide +kernel
theorem dX11_measure_74 : decode cX11_measure 74 = .ok (.putfield 176, 3) := by decide +kernel
theorem dX11_measure_77 : decode cX11_measure 77 = .ok (.aload_n 0, 1) := by decide +kernel
theorem dX11_measure_78 : decode cX11_measure 78 = .ok (.getfield 26, 3) := by decide +kernel
theorem dX11_measure_81 : decode cX11_measure 81 = .ok (.iload_n 2, 1) := by decide +kernel
theorem dX11_measure_82 : decode cX11_measure 82 = .ok (.putfield 179, 3) := by decide +kernel
theorem dX11_measure_85 : decode cX11_measure 85 = .ok (.iload_n 3, 1) := by decide +kernel
theorem dX11_measure_86 : decode cX11_measure 86 = .ok (.ireturn, 1) := by decide +kernel
theorem dX11_undo_0 : decode cX11_undo 0 = .ok (.aload_n 0, 1) := by decide +kernel
theorem dX11_undo_1 : decode cX11_undo 1 = .ok (.getfield 33, 3) := by decide +kernel
theorem dX11_undo_4 : decode cX11_undo 4 = .ok (.getfield 129, 3) := by decide +kernel
theorem dX11_undo_7 : decode cX11_undo 7 = .ok (.ifCond .ne 6, 3) := by decide +kernel
theorem dX11_undo_10 : decode cX11_undo 10 = .ok (.bipush (-2), 2) := by decide +kernel
theorem dX11_undo_12 : decode cX11_undo 12 = .ok (.ireturn, 1) := by decide +kernel
theorem dX11_undo_13 : decode cX11_undo 13 = .ok (.aload_n 0, 1) := by decide +kernel
theorem dX11_undo_14 : decode cX11_undo 14 = .ok (.getfield 33, 3) := by decide +kernel
theorem dX11_undo_17 : decode cX11_undo 17 = .ok (.aload_n 0, 1) := by decide +kernel
theorem dX11_undo_18 : decode cX11_undo 18 = .ok (.getfield 26, 3) := by decide +kernel
theorem dX11_undo_21 : decode cX11_undo 21 = .ok (.aload_n 0, 1) := by decide +kernel
theorem dX11_undo_22 : decode cX11_undo 22 = .ok (.getfield 40, 3) := by decide +kernel
theorem dX11_undo_25 : decode cX11_undo 25 = .ok (.invokevirtual 182, 3) := by decide +kernel
theorem dX11_undo_28 : decode cX11_undo 28 = .ok (.aload_n 0, 1) := by decide +kernel
theorem dX11_undo_29 : decode cX11_undo 29 = .ok (.invokevirtual 137, 3) := by decide +kernel
theorem dX11_undo_32 : decode cX11_undo 32 = .ok (.aload_n 0, 1) := by decide +kernel
theorem dX11_undo_33 : decode cX11_undo 33 = .ok (.getfield 33, 3) := by decide +kernel
theorem dX11_undo_36 : decode cX11_undo 36 = .ok (.getfield 129, 3) := by decide +kernel
theorem dX11_undo_39 : decode cX11_undo 39 = .ok (.ireturn, 1) := by decide +kernel
theorem dX11_cell_0 : decode cX11_cell 0 = .ok (.aload_n 0, 1) := by decide +kernel
theorem dX11_cell_1 : decode cX11_cell 1 = .ok (.getfield 26, 3) := by decide +kernel
theorem dX11_cell_4 : decode cX11_cell 4 = .ok (.iload_n 1, 1) := by decide +kernel
theorem dX11_cell_5 : decode cX11_cell 5 = .ok (.iload_n 2, 1) := by decide +kernel
theorem dX11_cell_6 : decode cX11_cell 6 = .ok (.invokevirtual 143, 3) := by decide +kernel
theorem dX11_cell_9 : decode cX11_cell 9 = .ok (.ifCond .eq 15, 3) := by decide +kernel
theorem dX11_cell_12 : decode cX11_cell 12 = .ok (.aload_n 0, 1) := by decide +kernel
theorem dX11_cell_13 : decode cX11_cell 13 = .ok (.getfield 26, 3) := by decide +kernel
theorem dX11_cell_16 : decode cX11_cell 16 = .ok (.iload_n 1, 1) := by decide +kernel
theorem dX11_cell_17 : decode cX11_cell 17 = .ok (.iload_n 2, 1) := by decide +kernel
theorem dX11_cell_18 : decode cX11_cell 18 = .ok (.invokevirtual 151, 3) := by decide +kernel
theorem dX11_cell_21 : decode cX11_cell 21 = .ok (.goto 4, 3) := by decide +kernel
theorem dX11_cell_24 : decode cX11_cell 24 = .ok (.iconst (-1), 1) := by decide +kernel
theorem dX11_cell_25 : decode cX11_cell 25 = .ok (.ireturn, 1) := by decide +kernel
theorem dX11_far_0 : decode cX11_far 0 = .ok (.aload_n 0, 1) := by decide +kernel
theorem dX11_far_1 : decode cX11_far 1 = .ok (.getfield 26, 3) := by decide +kernel
theorem dX11_far_4 : decode cX11_far 4 = .ok (.iload_n 1, 1) := by decide +kernel
theorem dX11_far_5 : decode cX11_far 5 = .ok (.iload_n 2, 1) := by decide +kernel
theorem dX11_far_6 : decode cX11_far 6 = .ok (.invokevirtual 143, 3) := by decide +kernel
theorem dX11_far_9 : decode cX11_far 9 = .ok (.ifCond .eq 15, 3) := by decide +kernel
theorem dX11_far_12 : decode cX11_far 12 = .ok (.aload_n 0, 1) := by decide +kernel
theorem dX11_far_13 : decode cX11_far 13 = .ok (.invokevirtual 186, 3) := by decide +kernel
theorem dX11_far_16 : decode cX11_far 16 = .ok (.iload_n 1, 1) := by decide +kernel
theorem dX11_far_17 : decode cX11_far 17 = .ok (.iload_n 2, 1) := by decide +kernel
theorem dX11_far_18 : decode cX11_far 18 = .ok (.invokevirtual 190, 3) := by decide +kernel
theorem dX11_far_21 : decode cX11_far 21 = .ok (.goto 4, 3) := by decide +kernel
theorem dX11_far_24 : decode cX11_far 24 = .ok (.iconst (-1), 1) := by decide +kernel
theorem dX11_far_25 : decode cX11_far 25 = .ok (.ireturn, 1) := by decide +kernel
theorem dX11_nearest_0 : decode cX11_nearest 0 = .ok (.aload_n 0, 1) := by decide +kernel
theorem dX11_nearest_1 : decode cX11_nearest 1 = .ok (.getfield 26, 3) := by decide +kernel
theorem dX11_nearest_4 : decode cX11_nearest 4 = .ok (.iload_n 1, 1) := by decide +kernel
theorem dX11_nearest_5 : decode cX11_nearest 5 = .ok (.iload_n 2, 1) := by decide +kernel
theorem dX11_nearest_6 : decode cX11_nearest 6 = .ok (.invokevirtual 143, 3) := by decide +kernel
theorem dX11_nearest_9 : decode cX11_nearest 9 = .ok (.ifCond .ne 5, 3) := by decide +kernel
theorem dX11_nearest_12 : decode cX11_nearest 12 = .ok (.iconst (-1), 1) := by decide +kernel
theorem dX11_nearest_13 : decode cX11_nearest 13 = .ok (.ireturn, 1) := by decide +kernel
theorem dX11_nearest_14 : decode cX11_nearest 14 = .ok (.bipush (-4), 2) := by decide +kernel
theorem dX11_nearest_16 : decode cX11_nearest 16 = .ok (.istore_n 3, 1) := by decide +kernel
theorem dX11_nearest_17 : decode cX11_nearest 17 = .ok (.ldc 195, 2) := by decide +kernel
theorem dX11_nearest_19 : decode cX11_nearest 19 = .ok (.istore 4, 2) := by decide +kernel
theorem dX11_nearest_21 : decode cX11_nearest 21 = .ok (.iconst 0, 1) := by decide +kernel
theorem dX11_nearest_22 : decode cX11_nearest 22 = .ok (.istore 5, 2) := by decide +kernel
theorem dX11_nearest_24 : decode cX11_nearest 24 = .ok (.iload 5, 2) := by decide +kernel
theorem dX11_nearest_26 : decode cX11_nearest 26 = .ok (.aload_n 0, 1) := by decide +kernel
theorem dX11_nearest_27 : decode cX11_nearest 27 = .ok (.getfield 26, 3) := by decide +kernel
theorem dX11_nearest_30 : decode cX11_nearest 30 = .ok (.getfield 196, 3) := by decide +kernel
theorem dX11_nearest_33 : decode cX11_nearest 33 = .ok (.if_icmp .ge 82, 3) := by decide +kernel
theorem dX11_nearest_36 : decode cX11_nearest 36 = .ok (.iconst 0, 1) := by decide +kernel
theorem dX11_nearest_37 : decode cX11_nearest 37 = .ok (.istore 6, 2) := by decide +kernel
theorem dX11_nearest_39 : decode cX11_nearest 39 = .ok (.iload 6, 2) := by decide +kernel
theorem dX11_nearest_41 : decode cX11_nearest 41 = .ok (.aload_n 0, 1) := by decide +kernel
theorem dX11_nearest_42 : decode cX11_nearest 42 = .ok (.getfield 26, 3) := by decide +kernel
theorem dX11_nearest_45 : decode cX11_nearest 45 = .ok (.getfield 199, 3) := by decide +kernel
theorem dX11_nearest_48 : decode cX11_nearest 48 = .ok (.if_icmp .ge 61, 3) := by decide +kernel
theorem dX11_nearest_51 : decode cX11_nearest 51 = .ok (.aload_n 0, 1) := by decide +kernel
theorem dX11_nearest_52 : decode cX11_nearest 52 = .ok (.getfield 26, 3) := by decide +kernel
theorem dX11_nearest_55 : decode cX11_nearest 55 = .ok (.iload 6, 2) := by decide +kernel
theorem dX11_nearest_57 : decode cX11_nearest 57 = .ok (.iload_n 1, 1) := by decide +kernel
theorem dX11_nearest_58 : decode cX11_nearest 58 = .ok (.isub, 1) := by decide +kernel
theorem dX11_nearest_59 : decode cX11_nearest 59 = .ok (.iload 5, 2) := by decide +kernel
theorem dX11_nearest_61 : decode cX11_nearest 61 = .ok (.iload_n 2, 1) := by decide +kernel
theorem dX11_nearest_62 : decode cX11_nearest 62 = .ok (.isub, 1) := by decide +kernel
theorem dX11_nearest_63 : decode cX11_nearest 63 = .ok (.invokevirtual 202, 3) := by decide +kernel
theorem dX11_nearest_66 : decode cX11_nearest 66 = .ok (.istore 7, 2) := by decide +kernel
theorem dX11_nearest_68 : decode cX11_nearest 68 = .ok (.aload_n 0, 1) := by decide +kernel
theorem dX11_nearest_69 : decode cX11_nearest 69 = .ok (.getfield 26, 3) := by decide +kernel
theorem dX11_nearest_72 : decode cX11_nearest 72 = .ok (.iload 6, 2) := by decide +kernel
theorem dX11_nearest_74 : decode cX11_nearest 74 = .ok (.iload 5, 2) := by decide +kernel
theorem dX11_nearest_76 : decode cX11_nearest 76 = .ok (.invokevirtual 151, 3) := by decide +kernel
theorem dX11_nearest_79 : decode cX11_nearest 79 = .ok (.iconst 1, 1) := by decide +kernel
theorem dX11_nearest_80 : decode cX11_nearest 80 = .ok (.if_icmp .ne 23, 3) := by decide +kernel
theorem dX11_nearest_83 : decode cX11_nearest 83 = .ok (.iload 7, 2) := by decide +kernel
theorem dX11_nearest_85 : decode cX11_nearest 85 = .ok (.iload 4, 2) := by decide +kernel
theorem dX11_nearest_87 : decode cX11_nearest 87 = .ok (.if_icmp .ge 16, 3) := by decide +kernel
theorem dX11_nearest_90 : decode cX11_nearest 90 = .ok (.iload 7, 2) := by decide +kernel
theorem dX11_nearest_92 : decode cX11_nearest 92 = .ok (.istore 4, 2) := by decide +kernel
theorem dX11_nearest_94 : decode cX11_nearest 94 = .ok (.bipush 100, 2) := by decide +kernel
theorem dX11_nearest_96 : decode cX11_nearest 96 = .ok (.iload 5, 2) := by decide +kernel
theorem dX11_nearest_98 : decode cX11_nearest 98 = .ok (.imul, 1) := by decide +kernel
theorem dX11_nearest_99 : decode cX11_nearest 99 = .ok (.iload 6, 2) := by decide +kernel
theorem dX11_nearest_101 : decode cX11_nearest 101 = .ok (.iadd, 1) := by decide +kernel
theorem dX11_nearest_102 : decode cX11_nearest 102 = .ok (.istore_n 3, 1) := by decide +kernel
theorem dX11_nearest_103 : decode cX11_nearest 103 = .ok (.iinc 6 1, 3) := by decide +kernel
theorem dX11_nearest_106 : decode cX11_nearest 106 = .ok (.goto (-67), 3) := by decide +kernel
theorem dX11_nearest_109 : decode cX11_nearest 109 = .ok (.iinc 5 1, 3) := by decide +kernel
theorem dX11_nearest_112 : decode cX11_nearest 112 = .ok (.goto (-88), 3) := by decide +kernel
theorem dX11_nearest_115 : decode cX11_nearest 115 = .ok (.iload_n 3, 1) := by decide +kernel
theorem dX11_nearest_116 : decode cX11_nearest 116 = .ok (.ireturn, 1) := by decide +kernel
theorem dX11_rings_0 : decode cX11_rings 0 = .ok (.iconst 0, 1) := by decide +kernel
theorem dX11_rings_1 : decode cX11_rings 1 = .ok (.iload_n 1, 1) := by decide +kernel
theorem dX11_rings_2 : decode cX11_rings 2 = .ok (.bipush 99, 2) := by decide +kernel
theorem dX11_rings_4 : decode cX11_rings 4 = .ok (.invokestatic 147, 3) := by decide +kernel
theorem dX11_rings_7 : decode cX11_rings 7 = .ok (.ifCond .eq 14, 3) := by decide +kernel
theorem dX11_rings_10 : decode cX11_rings 10 = .ok (.aload_n 0, 1) := by decide +kernel
theorem dX11_rings_11 : decode cX11_rings 11 = .ok (.invokevirtual 186, 3) := by decide +kernel
theorem dX11_rings_14 : decode cX11_rings 14 = .ok (.iload_n 1, 1) := by decide +kernel
theorem dX11_rings_15 : decode cX11_rings 15 = .ok (.invokevirtual 205, 3) := by decide +kernel
theorem dX11_rings_18 : decode cX11_rings 18 = .ok (.goto 4, 3) := by decide +kernel
theorem dX11_rings_21 : decode cX11_rings 21 = .ok (.iconst (-1), 1) := by decide +kernel
theorem dX11_rings_22 : decode cX11_rings 22 = .ok (.ireturn, 1) := by decide +kernel
theorem dX11_turn_0 : decode cX11_turn 0 = .ok (.iconst 2, 1) := by decide +kernel
theorem dX11_turn_1 : decode cX11_turn 1 = .ok (.iload_n 1, 1) := by decide +kernel
theorem dX11_turn_2 : decode cX11_turn 2 = .ok (.iconst 4, 1) := by decide +kernel
theorem dX11_turn_3 : decode cX11_turn 3 = .ok (.invokestatic 147, 3) := by decide +kernel
theorem dX11_turn_6 : decode cX11_turn 6 = .ok (.ifCond .eq 21, 3) := by decide +kernel
theorem dX11_turn_9 : decode cX11_turn 9 = .ok (.iconst 0, 1) := by decide +kernel
theorem dX11_turn_10 : decode cX11_turn 10 = .ok (.iload_n 2, 1) := by decide +kernel
theorem dX11_turn_11 : decode cX11_turn 11 = .ok (.iconst 3, 1) := by decide +kernel
theorem dX11_turn_12 : decode cX11_turn 12 = .ok (.invokestatic 147, 3) := by decide +kernel
theorem dX11_turn_15 : decode cX11_turn 15 = .ok (.ifCond .eq 12, 3) := by decide +kernel
theorem dX11_turn_18 : decode cX11_turn 18 = .ok (.iconst 0, 1) := by decide +kernel
theorem dX11_turn_19 : decode cX11_turn 19 = .ok (.iload_n 3, 1) := by decide +kernel
theorem dX11_turn_20 : decode cX11_turn 20 = .ok (.iconst 1, 1) := by decide +kernel
theorem dX11_turn_21 : decode cX11_turn 21 = .ok (.invokestatic 147, 3) := by decide +kernel
theorem dX11_turn_24 : decode cX11_turn 24 = .ok (.ifCond .ne 5, 3) := by decide +kernel
theorem dX11_turn_27 : decode cX11_turn 27 = .ok (.iconst (-1), 1) := by decide +kernel
theorem dX11_turn_28 : decode cX11_turn 28 = .ok (.ireturn, 1) := by decide +kernel
theorem dX11_turn_29 : decode cX11_turn 29 = .ok (.aload_n 0, 1) := by decide +kernel
theorem dX11_turn_30 : decode cX11_turn 30 = .ok (.iload_n 1, 1) := by decide +kernel
theorem dX11_turn_31 : decode cX11_turn 31 = .ok (.iload_n 2, 1) := by decide +kernel
theorem dX11_turn_32 : decode cX11_turn 32 = .ok (.iload_n 3, 1) := by decide +kernel
theorem dX11_turn_33 : decode cX11_turn 33 = .ok (.invokevirtual 133, 3) := by decide +kernel
theorem dX11_turn_36 : decode cX11_turn 36 = .ok (.iconst 0, 1) := by decide +kernel
theorem dX11_turn_37 : decode cX11_turn 37 = .ok (.ireturn, 1) := by decide +kernel
theorem dX11_lies_0 : decode cX11_lies 0 = .ok (.aload_n 0, 1) := by decide +kernel
theorem dX11_lies_1 : decode cX11_lies 1 = .ok (.iload_n 1, 1) := by decide +kernel
theorem dX11_lies_2 : decode cX11_lies 2 = .ok (.invokevirtual 168, 3) := by decide +kernel
theorem dX11_lies_5 : decode cX11_lies 5 = .ok (.ifCond .eq 12, 3) := by decide +kernel
theorem dX11_lies_8 : decode cX11_lies 8 = .ok (.iconst 0, 1) := by decide +kernel
theorem dX11_lies_9 : decode cX11_lies 9 = .ok (.iload_n 2, 1) := by decide +kernel
theorem dX11_lies_10 : decode cX11_lies 10 = .ok (.iconst 1, 1) := by decide +kernel
theorem dX11_lies_11 : decode cX11_lies 11 = .ok (.invokestatic 147, 3) := by decide +kernel
theorem dX11_lies_14 : decode cX11_lies 14 = .ok (.ifCond .ne 5, 3) := by decide +kernel
theorem dX11_lies_17 : decode cX11_lies 17 = .ok (.iconst (-1), 1) := by decide +kernel
theorem dX11_lies_18 : decode cX11_lies 18 = .ok (.ireturn, 1) := by decide +kernel
theorem dX11_lies_19 : decode cX11_lies 19 = .ok (.aload_n 0, 1) := by decide +kernel
theorem dX11_lies_20 : decode cX11_lies 20 = .ok (.invokevirtual 209, 3) := by decide +kernel
theorem dX11_lies_23 : decode cX11_lies 23 = .ok (.astore_n 3, 1) := by decide +kernel
theorem dX11_lies_24 : decode cX11_lies 24 = .ok (.bipush 100, 2) := by decide +kernel
theorem dX11_lies_26 : decode cX11_lies 26 = .ok (.iload_n 2, 1) := by decide +kernel
theorem dX11_lies_27 : decode cX11_lies 27 = .ok (.ifCond .ne 12, 3) := by decide +kernel
theorem dX11_lies_30 : decode cX11_lies 30 = .ok (.aload_n 3, 1) := by decide +kernel
theorem dX11_lies_31 : decode cX11_lies 31 = .ok (.getfield 213, 3) := by decide +kernel
theorem dX11_lies_34 : decode cX11_lies 34 = .ok (.iload_n 1, 1) := by decide +kernel
theorem dX11_lies_35 : decode cX11_lies 35 = .ok (.iaload, 1) := by decide +kernel
theorem dX11_lies_36 : decode cX11_lies 36 = .ok (.goto 9, 3) := by decide +kernel
theorem dX11_lies_39 : decode cX11_lies 39 = .ok (.aload_n 3, 1) := by decide +kernel
theorem dX11_lies_40 : decode cX11_lies 40 = .ok (.getfield 217, 3) := by decide +kernel
theorem dX11_lies_43 : decode cX11_lies 43 = .ok (.iload_n 1, 1) := by decide +kernel
theorem dX11_lies_44 : decode cX11_lies 44 = .ok (.iaload, 1) := by decide +kernel
theorem dX11_lies_45 : decode cX11_lies 45 = .ok (.iadd, 1) := by decide +kernel
theorem dX11_lies_46 : decode cX11_lies 46 = .ok (.ireturn, 1) := by decide +kernel
theorem dX11_pose_0 : decode cX11_pose 0 = .ok (.aload_n 0, 1) := by decide +kernel
theorem dX11_pose_1 : decode cX11_pose 1 = .ok (.getfield 26, 3) := by decide +kernel
theorem dX11_pose_4 : decode cX11_pose 4 = .ok (.iload_n 1, 1) := by decide +kernel
theorem dX11_pose_5 : decode cX11_pose 5 = .ok (.iload_n 2, 1) := by decide +kernel
theorem dX11_pose_6 : decode cX11_pose 6 = .ok (.invokevirtual 143, 3) := by decide +kernel
theorem dX11_pose_9 : decode cX11_pose 9 = .ok (.ifCond .eq 12, 3) := by decide +kernel
theorem dX11_pose_12 : decode cX11_pose 12 = .ok (.iconst 0, 1) := by decide +kernel
theorem dX11_pose_13 : decode cX11_pose 13 = .ok (.iload_n 3, 1) := by decide +kernel
theorem dX11_pose_14 : decode cX11_pose 14 = .ok (.iconst 3, 1) := by decide +kernel
theorem dX11_pose_15 : decode cX11_pose 15 = .ok (.invokestatic 147, 3) := by decide +kernel
theorem dX11_pose_18 : decode cX11_pose 18 = .ok (.ifCond .ne 5, 3) := by decide +kernel
theorem dX11_pose_21 : decode cX11_pose 21 = .ok (.iconst (-1), 1) := by decide +kernel
theorem dX11_pose_22 : decode cX11_pose 22 = .ok (.ireturn, 1) := by decide +kernel
theorem dX11_pose_23 : decode cX11_pose 23 = .ok (.aload_n 0, 1) := by decide +kernel
theorem dX11_pose_24 : decode cX11_pose 24 = .ok (.getfield 68, 3) := by decide +kernel
theorem dX11_pose_27 : decode cX11_pose 27 = .ok (.aload_n 0, 1) := by decide +kernel
theorem dX11_pose_28 : decode cX11_pose 28 = .ok (.invokevirtual 186, 3) := by decide +kernel
theorem dX11_pose_31 : decode cX11_pose 31 = .ok (.aload_n 0, 1) := by decide +kernel
theorem dX11_pose_32 : decode cX11_pose 32 = .ok (.invokevirtual 209, 3) := by decide +kernel
theorem dX11_pose_35 : decode cX11_pose 35 = .ok (.iload_n 1, 1) := by decide +kernel
theorem dX11_pose_36 : decode cX11_pose 36 = .ok (.iload_n 2, 1) := by decide +kernel
theorem dX11_pose_37 : decode cX11_pose 37 = .ok (.invokevirtual 220, 3) := by decide +kernel
theorem dX11_pose_40 : decode cX11_pose 40 = .ok (.ifCond .ne 6, 3) := by decide +kernel
theorem dX11_pose_43 : decode cX11_pose 43 = .ok (.bipush (-4), 2) := by decide +kernel
theorem dX11_pose_45 : decode cX11_pose 45 = .ok (.ireturn, 1) := by decide +kernel
theorem dX11_pose_46 : decode cX11_pose 46 = .ok (.iload_n 3, 1) := by decide +kernel
theorem dX11_pose_47 : decode cX11_pose 47 = .ok (.tableswitch 49 0 2 #[25, 33, 41], 25) := by decide +kernel
theorem dX11_pose_72 : decode cX11_pose 72 = .ok (.aload_n 0, 1) := by decide +kernel
theorem dX11_pose_73 : decode cX11_pose 73 = .ok (.getfield 68, 3) := by decide +kernel
theorem dX11_pose_76 : decode cX11_pose 76 = .ok (.getfield 224, 3) := by decide +kernel
theorem dX11_pose_79 : decode cX11_pose 79 = .ok (.ireturn, 1) := by decide +kernel
theorem dX11_pose_80 : decode cX11_pose 80 = .ok (.aload_n 0, 1) := by decide +kernel
theorem dX11_pose_81 : decode cX11_pose 81 = .ok (.getfield 68, 3) := by decide +kernel
theorem dX11_pose_84 : decode cX11_pose 84 = .ok (.getfield 227, 3) := by decide +kernel
theorem dX11_pose_87 : decode cX11_pose 87 = .ok (.ireturn, 1) := by decide +kernel
theorem dX11_pose_88 : decode cX11_pose 88 = .ok (.aload_n 0, 1) := by decide +kernel
theorem dX11_pose_89 : decode cX11_pose 89 = .ok (.getfield 68, 3) := by decide +kernel
theorem dX11_pose_92 : decode cX11_pose 92 = .ok (.getfield 230, 3) := by decide +kernel
theorem dX11_pose_95 : decode cX11_pose 95 = .ok (.ireturn, 1) := by decide +kernel
theorem dX11_pose_96 : decode cX11_pose 96 = .ok (.aload_n 0, 1) := by decide +kernel
theorem dX11_pose_97 : decode cX11_pose 97 = .ok (.getfield 68, 3) := by decide +kernel
theorem dX11_pose_100 : decode cX11_pose 100 = .ok (.getfield 233, 3) := by decide +kernel
theorem dX11_pose_103 : decode cX11_pose 103 = .ok (.ireturn, 1) := by decide +kernel
theorem dX11_fits_0 : decode cX11_fits 0 = .ok (.aload_n 0, 1) := by decide +kernel
theorem dX11_fits_1 : decode cX11_fits 1 = .ok (.invokevirtual 209, 3) := by decide +kernel
theorem dX11_fits_4 : decode cX11_fits 4 = .ok (.astore_n 1, 1) := by decide +kernel
theorem dX11_fits_5 : decode cX11_fits 5 = .ok (.iconst 0, 1) := by decide +kernel
theorem dX11_fits_6 : decode cX11_fits 6 = .ok (.istore_n 2, 1) := by decide +kernel
theorem dX11_fits_7 : decode cX11_fits 7 = .ok (.iconst 0, 1) := by decide +kernel
theorem dX11_fits_8 : decode cX11_fits 8 = .ok (.istore_n 3, 1) := by decide +kernel
theorem dX11_fits_9 : decode cX11_fits 9 = .ok (.iload_n 3, 1) := by decide +kernel
theorem dX11_fits_10 : decode cX11_fits 10 = .ok (.aload_n 0, 1) := by decide +kernel
theorem dX11_fits_11 : decode cX11_fits 11 = .ok (.getfield 26, 3) := by decide +kernel
theorem dX11_fits_14 : decode cX11_fits 14 = .ok (.getfield 196, 3) := by decide +kernel
theorem dX11_fits_17 : decode cX11_fits 17 = .ok (.if_icmp .ge 57, 3) := by decide +kernel
theorem dX11_fits_20 : decode cX11_fits 20 = .ok (.iconst 0, 1) := by decide +kernel
theorem dX11_fits_21 : decode cX11_fits 21 = .ok (.istore 4, 2) := by decide +kernel
theorem dX11_fits_23 : decode cX11_fits 23 = .ok (.iload 4, 2) := by decide +kernel
theorem dX11_fits_25 : decode cX11_fits 25 = .ok (.aload_n 0, 1) := by decide +kernel
theorem dX11_fits_26 : decode cX11_fits 26 = .ok (.getfield 26, 3) := by decide +kernel
theorem dX11_fits_29 : decode cX11_fits 29 = .ok (.getfield 199, 3) := by decide +kernel
theorem dX11_fits_32 : decode cX11_fits 32 = .ok (.if_icmp .ge 36, 3) := by decide +kernel
theorem dX11_fits_35 : decode cX11_fits 35 = .ok (.aload_n 1, 1) := by decide +kernel
theorem dX11_fits_36 : decode cX11_fits 36 = .ok (.aload_n 0, 1) := by decide +kernel
theorem dX11_fits_37 : decode cX11_fits 37 = .ok (.getfield 26, 3) := by decide +kernel
theorem dX11_fits_40 : decode cX11_fits 40 = .ok (.getfield 199, 3) := by decide +kernel
theorem dX11_fits_43 : decode cX11_fits 43 = .ok (.aload_n 0, 1) := by decide +kernel
theorem dX11_fits_44 : decode cX11_fits 44 = .ok (.getfield 26, 3) := by decide +kernel
theorem dX11_fits_47 : decode cX11_fits 47 = .ok (.getfield 196, 3) := by decide +kernel
theorem dX11_fits_50 : decode cX11_fits 50 = .ok (.iload 4, 2) := by decide +kernel
theorem dX11_fits_52 : decode cX11_fits 52 = .ok (.iload_n 3, 1) := by decide +kernel
theorem dX11_fits_53 : decode cX11_fits 53 = .ok (.invokevirtual 236, 3) := by decide +kernel
theorem dX11_fits_56 : decode cX11_fits 56 = .ok (.ifCond .eq 6, 3) := by decide +kernel
theorem dX11_fits_59 : decode cX11_fits 59 = .ok (.iinc 2 1, 3) := by decide +kernel
theorem dX11_fits_62 : decode cX11_fits 62 = .ok (.iinc 4 1, 3) := by decide +kernel
theorem dX11_fits_65 : decode cX11_fits 65 = .ok (.goto (-42), 3) := by decide +kernel
theorem dX11_fits_68 : decode cX11_fits 68 = .ok (.iinc 3 1, 3) := by decide +kernel
theorem dX11_fits_71 : decode cX11_fits 71 = .ok (.goto (-62), 3) := by decide +kernel
theorem dX11_fits_74 : decode cX11_fits 74 = .ok (.iload_n 2, 1) := by decide +kernel
theorem dX11_fits_75 : decode cX11_fits 75 = .ok (.ireturn, 1) := by decide +kernel
theorem dX11_bound_0 : decode cX11_bound 0 = .ok (.aload_n 0, 1) := by decide +kernel
theorem dX11_bound_1 : decode cX11_bound 1 = .ok (.getfield 26, 3) := by decide +kernel
theorem dX11_bound_4 : decode cX11_bound 4 = .ok (.iload_n 1, 1) := by decide +kernel
theorem dX11_bound_5 : decode cX11_bound 5 = .ok (.iload_n 2, 1) := by decide +kernel
theorem dX11_bound_6 : decode cX11_bound 6 = .ok (.invokevirtual 143, 3) := by decide +kernel
theorem dX11_bound_9 : decode cX11_bound 9 = .ok (.ifCond .eq 13, 3) := by decide +kernel
theorem dX11_bound_12 : decode cX11_bound 12 = .ok (.iconst 1, 1) := by decide +kernel
theorem dX11_bound_13 : decode cX11_bound 13 = .ok (.iload_n 3, 1) := by decide +kernel
theorem dX11_bound_14 : decode cX11_bound 14 = .ok (.bipush 11, 2) := by decide +kernel
theorem dX11_bound_16 : decode cX11_bound 16 = .ok (.invokestatic 147, 3) := by decide +kernel
theorem dX11_bound_19 : decode cX11_bound 19 = .ok (.ifCond .ne 5, 3) := by decide +kernel
theorem dX11_bound_22 : decode cX11_bound 22 = .ok (.iconst (-1), 1) := by decide +kernel
theorem dX11_bound_23 : decode cX11_bound 23 = .ok (.ireturn, 1) := by decide +kernel
theorem dX11_bound_24 : decode cX11_bound 24 = .ok (.aload_n 0, 1) := by decide +kernel
theorem dX11_bound_25 : decode cX11_bound 25 = .ok (.invokevirtual 186, 3) := by decide +kernel
theorem dX11_bound_28 : decode cX11_bound 28 = .ok (.astore 4, 2) := by decide +kernel
theorem dX11_bound_30 : decode cX11_bound 30 = .ok (.aload_n 0, 1) := by decide +kernel
theorem dX11_bound_31 : decode cX11_bound 31 = .ok (.invokevirtual 209, 3) := by decide +kernel
theorem dX11_bound_34 : decode cX11_bound 34 = .ok (.astore 5, 2) := by decide +kernel
theorem dX11_bound_36 : decode cX11_bound 36 = .ok (.iload_n 1, 1) := by decide +kernel
theorem dX11_bound_37 : decode cX11_bound 37 = .ok (.iload_n 3, 1) := by decide +kernel
theorem dX11_bound_38 : decode cX11_bound 38 = .ok (.iadd, 1) := by decide +kernel
theorem dX11_bound_39 : decode cX11_bound 39 = .ok (.aload_n 0, 1) := by decide +kernel
theorem dX11_bound_40 : decode cX11_bound 40 = .ok (.getfield 26, 3) := by decide +kernel
theorem dX11_bound_43 : decode cX11_bound 43 = .ok (.getfield 199, 3) := by decide +kernel
theorem dX11_bound_46 : decode cX11_bound 46 = .ok (.invokestatic 240, 3) := by decide +kernel
theorem dX11_bound_49 : decode cX11_bound 49 = .ok (.iconst 1, 1) := by decide +kernel
theorem dX11_bound_50 : decode cX11_bound 50 = .ok (.isub, 1) := by decide +kernel
theorem dX11_bound_51 : decode cX11_bound 51 = .ok (.istore 6, 2) := by decide +kernel
theorem dX11_bound_53 : decode cX11_bound 53 = .ok (.iload_n 2, 1) := by decide +kernel
theorem dX11_bound_54 : decode cX11_bound 54 = .ok (.iload_n 3, 1) := by decide +kernel
theorem dX11_bound_55 : decode cX11_bound 55 = .ok (.iadd, 1) := by decide +kernel
theorem dX11_bound_56 : decode cX11_bound 56 = .ok (.aload_n 0, 1) := by decide +kernel
theorem dX11_bound_57 : decode cX11_bound 57 = .ok (.getfield 26, 3) := by decide +kernel
theorem dX11_bound_60 : decode cX11_bound 60 = .ok (.getfield 196, 3) := by decide +kernel
theorem dX11_bound_63 : decode cX11_bound 63 = .ok (.invokestatic 240, 3) := by decide +kernel
theorem dX11_bound_66 : decode cX11_bound 66 = .ok (.iconst 1, 1) := by decide +kernel
theorem dX11_bound_67 : decode cX11_bound 67 = .ok (.isub, 1) := by decide +kernel
theorem dX11_bound_68 : decode cX11_bound 68 = .ok (.istore 7, 2) := by decide +kernel
theorem dX11_bound_70 : decode cX11_bound 70 = .ok (.iconst 0, 1) := by decide +kernel
theorem dX11_bound_71 : decode cX11_bound 71 = .ok (.istore 8, 2) := by decide +kernel
theorem dX11_bound_73 : decode cX11_bound 73 = .ok (.iconst 0, 1) := by decide +kernel
theorem dX11_bound_74 : decode cX11_bound 74 = .ok (.istore 9, 2) := by decide +kernel
theorem dX11_bound_76 : decode cX11_bound 76 = .ok (.iload 9, 2) := by decide +kernel
theorem dX11_bound_78 : decode cX11_bound 78 = .ok (.aload 5, 2) := by decide +kernel
theorem dX11_bound_80 : decode cX11_bound 80 = .ok (.getfield 245, 3) := by decide +kernel
theorem dX11_bound_83 : decode cX11_bound 83 = .ok (.if_icmp .ge 71, 3) := by decide +kernel
theorem dX11_bound_86 : decode cX11_bound 86 = .ok (.aload 5, 2) := by decide +kernel
theorem dX11_bound_88 : decode cX11_bound 88 = .ok (.getfield 213, 3) := by decide +kernel
theorem dX11_bound_91 : decode cX11_bound 91 = .ok (.iload 9, 2) := by decide +kernel
theorem dX11_bound_93 : decode cX11_bound 93 = .ok (.iaload, 1) := by decide +kernel
theorem dX11_bound_94 : decode cX11_bound 94 = .ok (.istore 10, 2) := by decide +kernel
theorem dX11_bound_96 : decode cX11_bound 96 = .ok (.aload 5, 2) := by decide +kernel
theorem dX11_bound_98 : decode cX11_bound 98 = .ok (.getfield 217, 3) := by decide +kernel
theorem dX11_bound_101 : decode cX11_bound 101 = .ok (.iload 9, 2) := by decide +kernel
theorem dX11_bound_103 : decode cX11_bound 103 = .ok (.iaload, 1) := by decide +kernel
theorem dX11_bound_104 : decode cX11_bound 104 = .ok (.istore 11, 2) := by decide +kernel
theorem dX11_bound_106 : decode cX11_bound 106 = .ok (.aload 4, 2) := by decide +kernel
theorem dX11_bound_108 : decode cX11_bound 108 = .ok (.iload_n 1, 1) := by decide +kernel
theorem dX11_bound_109 : decode cX11_bound 109 = .ok (.iload 10, 2) := by decide +kernel
theorem dX11_bound_111 : decode cX11_bound 111 = .ok (.iadd, 1) := by decide +kernel
theorem dX11_bound_112 : decode cX11_bound 112 = .ok (.iload_n 2, 1) := by decide +kernel
theorem dX11_bound_113 : decode cX11_bound 113 = .ok (.iload 11, 2) := by decide +kernel
theorem dX11_bound_115 : decode cX11_bound 115 = .ok (.iadd, 1) := by decide +kernel
theorem dX11_bound_116 : decode cX11_bound 116 = .ok (.iload 6, 2) := by decide +kernel
theorem dX11_bound_118 : decode cX11_bound 118 = .ok (.iload 10, 2) := by decide +kernel
theorem dX11_bound_120 : decode cX11_bound 120 = .ok (.iadd, 1) := by decide +kernel
theorem dX11_bound_121 : decode cX11_bound 121 = .ok (.iload 7, 2) := by decide +kernel
theorem dX11_bound_123 : decode cX11_bound 123 = .ok (.iload 11, 2) := by decide +kernel
theorem dX11_bound_125 : decode cX11_bound 125 = .ok (.iadd, 1) := by decide +kernel
theorem dX11_bound_126 : decode cX11_bound 126 = .ok (.invokevirtual 246, 3) := by decide +kernel
theorem dX11_bound_129 : decode cX11_bound 129 = .ok (.istore 12, 2) := by decide +kernel
theorem dX11_bound_131 : decode cX11_bound 131 = .ok (.iload 12, 2) := by decide +kernel
theorem dX11_bound_133 : decode cX11_bound 133 = .ok (.bipush (-4), 2) := by decide +kernel
theorem dX11_bound_135 : decode cX11_bound 135 = .ok (.if_icmp .ne 6, 3) := by decide +kernel
theorem dX11_bound_138 : decode cX11_bound 138 = .ok (.bipush (-4), 2) := by decide +kernel
theorem dX11_bound_140 : decode cX11_bound 140 = .ok (.ireturn, 1) := by decide +kernel
theorem dX11_bound_141 : decode cX11_bound 141 = .ok (.iload 8, 2) := by decide +kernel
theorem dX11_bound_143 : decode cX11_bound 143 = .ok (.iload 12, 2) := by decide +kernel
theorem dX11_bound_145 : decode cX11_bound 145 = .ok (.iadd, 1) := by decide +kernel
theorem dX11_bound_146 : decode cX11_bound 146 = .ok (.istore 8, 2) := by decide +kernel
theorem dX11_bound_148 : decode cX11_bound 148 = .ok (.iinc 9 1, 3) := by decide +kernel
theorem dX11_bound_151 : decode cX11_bound 151 = .ok (.goto (-75), 3) := by decide +kernel
theorem dX11_bound_154 : decode cX11_bound 154 = .ok (.iload 8, 2) := by decide +kernel
theorem dX11_bound_156 : decode cX11_bound 156 = .ok (.ireturn, 1) := by decide +kernel
theorem dX11_tells_0 : decode cX11_tells 0 = .ok (.aload_n 0, 1) := by decide +kernel
theorem dX11_tells_1 : decode cX11_tells 1 = .ok (.getfield 26, 3) := by decide +kernel
theorem dX11_tells_4 : decode cX11_tells 4 = .ok (.iload_n 1, 1) := by decide +kernel
theorem dX11_tells_5 : decode cX11_tells 5 = .ok (.iload_n 2, 1) := by decide +kernel
theorem dX11_tells_6 : decode cX11_tells 6 = .ok (.invokevirtual 143, 3) := by decide +kernel
theorem dX11_tells_9 : decode cX11_tells 9 = .ok (.ifCond .eq 12, 3) := by decide +kernel
theorem dX11_tells_12 : decode cX11_tells 12 = .ok (.iconst 0, 1) := by decide +kernel
theorem dX11_tells_13 : decode cX11_tells 13 = .ok (.iload_n 3, 1) := by decide +kernel
theorem dX11_tells_14 : decode cX11_tells 14 = .ok (.iconst 3, 1) := by decide +kernel
theorem dX11_tells_15 : decode cX11_tells 15 = .ok (.invokestatic 147, 3) := by decide +kernel
theorem dX11_tells_18 : decode cX11_tells 18 = .ok (.ifCond .ne 5, 3) := by decide +kernel
theorem dX11_tells_21 : decode cX11_tells 21 = .ok (.iconst (-1), 1) := by decide +kernel
theorem dX11_tells_22 : decode cX11_tells 22 = .ok (.ireturn, 1) := by decide +kernel
theorem dX11_tells_23 : decode cX11_tells 23 = .ok (.aload_n 0, 1) := by decide +kernel
theorem dX11_tells_24 : decode cX11_tells 24 = .ok (.invokevirtual 209, 3) := by decide +kernel
theorem dX11_tells_27 : decode cX11_tells 27 = .ok (.astore 4, 2) := by decide +kernel
theorem dX11_tells_29 : decode cX11_tells 29 = .ok (.aload 4, 2) := by decide +kernel
theorem dX11_tells_31 : decode cX11_tells 31 = .ok (.aload_n 0, 1) := by decide +kernel
theorem dX11_tells_32 : decode cX11_tells 32 = .ok (.getfield 26, 3) := by decide +kernel
theorem dX11_tells_35 : decode cX11_tells 35 = .ok (.getfield 199, 3) := by decide +kernel
theorem dX11_tells_38 : decode cX11_tells 38 = .ok (.aload_n 0, 1) := by decide +kernel
theorem dX11_tells_39 : decode cX11_tells 39 = .ok (.getfield 26, 3) := by decide +kernel
theorem dX11_tells_42 : decode cX11_tells 42 = .ok (.getfield 196, 3) := by decide +kernel
theorem dX11_tells_45 : decode cX11_tells 45 = .ok (.iload_n 1, 1) := by decide +kernel
theorem dX11_tells_46 : decode cX11_tells 46 = .ok (.iload_n 2, 1) := by decide +kernel
theorem dX11_tells_47 : decode cX11_tells 47 = .ok (.invokevirtual 236, 3) := by decide +kernel
theorem dX11_tells_50 : decode cX11_tells 50 = .ok (.ifCond .ne 6, 3) := by decide +kernel
theorem dX11_tells_53 : decode cX11_tells 53 = .ok (.bipush (-4), 2) := by decide +kernel
theorem dX11_tells_55 : decode cX11_tells 55 = .ok (.ireturn, 1) := by decide +kernel
theorem dX11_tells_56 : decode cX11_tells 56 = .ok (.aload_n 0, 1) := by decide +kernel
theorem dX11_tells_57 : decode cX11_tells 57 = .ok (.getfield 75, 3) := by decide +kernel
theorem dX11_tells_60 : decode cX11_tells 60 = .ok (.aload_n 0, 1) := by decide +kernel
theorem dX11_tells_61 : decode cX11_tells 61 = .ok (.getfield 26, 3) := by decide +kernel
theorem dX11_tells_64 : decode cX11_tells 64 = .ok (.aload 4, 2) := by decide +kernel
theorem dX11_tells_66 : decode cX11_tells 66 = .ok (.iload_n 1, 1) := by decide +kernel
theorem dX11_tells_67 : decode cX11_tells 67 = .ok (.iload_n 2, 1) := by decide +kernel
theorem dX11_tells_68 : decode cX11_tells 68 = .ok (.iload_n 3, 1) := by decide +kernel
theorem dX11_tells_69 : decode cX11_tells 69 = .ok (.invokevirtual 250, 3) := by decide +kernel
theorem dX11_tells_72 : decode cX11_tells 72 = .ok (.ireturn, 1) := by decide +kernel
theorem dX11_best_0 : decode cX11_best 0 = .ok (.iload_n 1, 1) := by decide +kernel
theorem dX11_best_1 : decode cX11_best 1 = .ok (.iconst (-1), 1) := by decide +kernel
theorem dX11_best_2 : decode cX11_best 2 = .ok (.if_icmp .lt 13, 3) := by decide +kernel
theorem dX11_best_5 : decode cX11_best 5 = .ok (.iconst 0, 1) := by decide +kernel
theorem dX11_best_6 : decode cX11_best 6 = .ok (.iload_n 2, 1) := by decide +kernel
theorem dX11_best_7 : decode cX11_best 7 = .ok (.bipush 6, 2) := by decide +kernel
theorem dX11_best_9 : decode cX11_best 9 = .ok (.invokestatic 147, 3) := by decide +kernel
theorem dX11_best_12 : decode cX11_best 12 = .ok (.ifCond .ne 5, 3) := by decide +kernel
theorem dX11_best_15 : decode cX11_best 15 = .ok (.iconst (-1), 1) := by decide +kernel
theorem dX11_best_16 : decode cX11_best 16 = .ok (.ireturn, 1) := by decide +kernel
theorem dX11_best_17 : decode cX11_best 17 = .ok (.aload_n 0, 1) := by decide +kernel
theorem dX11_best_18 : decode cX11_best 18 = .ok (.invokevirtual 254, 3) := by decide +kernel
theorem dX11_best_21 : decode cX11_best 21 = .ok (.astore_n 3, 1) := by decide +kernel
theorem dX11_best_22 : decode cX11_best 22 = .ok (.aload_n 3, 1) := by decide +kernel
theorem dX11_best_23 : decode cX11_best 23 = .ok (.getfield 258, 3) := by decide +kernel
theorem dX11_best_26 : decode cX11_best 26 = .ok (.aload_n 3, 1) := by decide +kernel
theorem dX11_best_27 : decode cX11_best 27 = .ok (.getfield 261, 3) := by decide +kernel
theorem dX11_best_30 : decode cX11_best 30 = .ok (.iload_n 1, 1) := by decide +kernel
theorem dX11_best_31 : decode cX11_best 31 = .ok (.iload_n 2, 1) := by decide +kernel
theorem dX11_best_32 : decode cX11_best 32 = .ok (.invokestatic 264, 3) := by decide +kernel
theorem dX11_best_35 : decode cX11_best 35 = .ok (.ireturn, 1) := by decide +kernel
theorem dX11_spread_0 : decode cX11_spread 0 = .ok (.iconst 1, 1) := by decide +kernel
theorem dX11_spread_1 : decode cX11_spread 1 = .ok (.iload_n 1, 1) := by decide +kernel
theorem dX11_spread_2 : decode cX11_spread 2 = .ok (.bipush 20, 2) := by decide +kernel
theorem dX11_spread_4 : decode cX11_spread 4 = .ok (.invokestatic 147, 3) := by decide +kernel
theorem dX11_spread_7 : decode cX11_spread 7 = .ok (.ifCond .eq 18, 3) := by decide +kernel
theorem dX11_spread_10 : decode cX11_spread 10 = .ok (.iload_n 2, 1) := by decide +kernel
theorem dX11_spread_11 : decode cX11_spread 11 = .ok (.iconst (-1), 1) := by decide +kernel
theorem dX11_spread_12 : decode cX11_spread 12 = .ok (.if_icmp .lt 13, 3) := by decide +kernel
theorem dX11_spread_15 : decode cX11_spread 15 = .ok (.iconst 0, 1) := by decide +kernel
theorem dX11_spread_16 : decode cX11_spread 16 = .ok (.iload_n 3, 1) := by decide +kernel
theorem dX11_spread_17 : decode cX11_spread 17 = .ok (.bipush 6, 2) := by decide +kernel
theorem dX11_spread_19 : decode cX11_spread 19 = .ok (.invokestatic 147, 3) := by decide +kernel
theorem dX11_spread_22 : decode cX11_spread 22 = .ok (.ifCond .ne 5, 3) := by decide +kernel
theorem dX11_spread_25 : decode cX11_spread 25 = .ok (.iconst (-1), 1) := by decide +kernel
theorem dX11_spread_26 : decode cX11_spread 26 = .ok (.ireturn, 1) := by decide +kernel
theorem dX11_spread_27 : decode cX11_spread 27 = .ok (.aload_n 0, 1) := by decide +kernel
theorem dX11_spread_28 : decode cX11_spread 28 = .ok (.invokevirtual 254, 3) := by decide +kernel
theorem dX11_spread_31 : decode cX11_spread 31 = .ok (.astore 4, 2) := by decide +kernel
theorem dX11_spread_33 : decode cX11_spread 33 = .ok (.aload 4, 2) := by decide +kernel
theorem dX11_spread_35 : decode cX11_spread 35 = .ok (.iload_n 1, 1) := by decide +kernel
theorem dX11_spread_36 : decode cX11_spread 36 = .ok (.invokevirtual 268, 3) := by decide +kernel
theorem dX11_spread_39 : decode cX11_spread 39 = .ok (.aload 4, 2) := by decide +kernel
theorem dX11_spread_41 : decode cX11_spread 41 = .ok (.getfield 271, 3) := by decide +kernel
theorem dX11_spread_44 : decode cX11_spread 44 = .ok (.aload 4, 2) := by decide +kernel
theorem dX11_spread_46 : decode cX11_spread 46 = .ok (.getfield 274, 3) := by decide +kernel
theorem dX11_spread_49 : decode cX11_spread 49 = .ok (.iload_n 2, 1) := by decide +kernel
theorem dX11_spread_50 : decode cX11_spread 50 = .ok (.iload_n 3, 1) := by decide +kernel
theorem dX11_spread_51 : decode cX11_spread 51 = .ok (.invokestatic 264, 3) := by decide +kernel
theorem dX11_spread_54 : decode cX11_spread 54 = .ok (.ireturn, 1) := by decide +kernel
theorem dX11_take_0 : decode cX11_take 0 = .ok (.iconst 0, 1) := by decide +kernel
theorem dX11_take_1 : decode cX11_take 1 = .ok (.iload_n 1, 1) := by decide +kernel
theorem dX11_take_2 : decode cX11_take 2 = .ok (.iconst 3, 1) := by decide +kernel
theorem dX11_take_3 : decode cX11_take 3 = .ok (.invokestatic 147, 3) := by decide +kernel
theorem dX11_take_6 : decode cX11_take 6 = .ok (.ifCond .eq 14, 3) := by decide +kernel
theorem dX11_take_9 : decode cX11_take 9 = .ok (.iconst 0, 1) := by decide +kernel
theorem dX11_take_10 : decode cX11_take 10 = .ok (.iload_n 2, 1) := by decide +kernel
theorem dX11_take_11 : decode cX11_take 11 = .ok (.sipush 990, 3) := by decide +kernel
theorem dX11_take_14 : decode cX11_take 14 = .ok (.invokestatic 147, 3) := by decide +kernel
theorem dX11_take_17 : decode cX11_take 17 = .ok (.ifCond .ne 5, 3) := by decide +kernel
theorem dX11_take_20 : decode cX11_take 20 = .ok (.iconst (-1), 1) := by decide +kernel
theorem dX11_take_21 : decode cX11_take 21 = .ok (.ireturn, 1) := by decide +kernel
theorem dX11_take_22 : decode cX11_take 22 = .ok (.aload_n 0, 1) := by decide +kernel
theorem dX11_take_23 : decode cX11_take 23 = .ok (.getfield 40, 3) := by decide +kernel
theorem dX11_take_26 : decode cX11_take 26 = .ok (.getfield 132, 3) := by decide +kernel
theorem dX11_take_29 : decode cX11_take 29 = .ok (.bipush 8, 2) := by decide +kernel
theorem dX11_take_31 : decode cX11_take 31 = .ok (.if_icmp .ge 12, 3) := by decide +kernel
theorem dX11_take_34 : decode cX11_take 34 = .ok (.aload_n 0, 1) := by decide +kernel
theorem dX11_take_35 : decode cX11_take 35 = .ok (.iload_n 1, 1) := by decide +kernel
theorem dX11_take_36 : decode cX11_take 36 = .ok (.iload_n 2, 1) := by decide +kernel
theorem dX11_take_37 : decode cX11_take 37 = .ok (.invokevirtual 277, 3) := by decide +kernel
theorem dX11_take_40 : decode cX11_take 40 = .ok (.goto 5, 3) := by decide +kernel
theorem dX11_take_43 : decode cX11_take 43 = .ok (.bipush (-3), 2) := by decide +kernel
theorem dX11_take_45 : decode cX11_take 45 = .ok (.ireturn, 1) := by decide +kernel
theorem dX11_takes_0 : decode cX11_takes 0 = .ok (.iconst 0, 1) := by decide +kernel
theorem dX11_takes_1 : decode cX11_takes 1 = .ok (.iload_n 1, 1) := by decide +kernel
theorem dX11_takes_2 : decode cX11_takes 2 = .ok (.iconst 3, 1) := by decide +kernel
theorem dX11_takes_3 : decode cX11_takes 3 = .ok (.invokestatic 147, 3) := by decide +kernel
theorem dX11_takes_6 : decode cX11_takes 6 = .ok (.ifCond .eq 14, 3) := by decide +kernel
theorem dX11_takes_9 : decode cX11_takes 9 = .ok (.iconst 0, 1) := by decide +kernel
theorem dX11_takes_10 : decode cX11_takes 10 = .ok (.iload_n 2, 1) := by decide +kernel
theorem dX11_takes_11 : decode cX11_takes 11 = .ok (.sipush 990, 3) := by decide +kernel
theorem dX11_takes_14 : decode cX11_takes 14 = .ok (.invokestatic 147, 3) := by decide +kernel
theorem dX11_takes_17 : decode cX11_takes 17 = .ok (.ifCond .ne 5, 3) := by decide +kernel
theorem dX11_takes_20 : decode cX11_takes 20 = .ok (.iconst (-1), 1) := by decide +kernel
theorem dX11_takes_21 : decode cX11_takes 21 = .ok (.ireturn, 1) := by decide +kernel
theorem dX11_takes_22 : decode cX11_takes 22 = .ok (.iconst 0, 1) := by decide +kernel
theorem dX11_takes_23 : decode cX11_takes 23 = .ok (.istore_n 3, 1) := by decide +kernel
theorem dX11_takes_24 : decode cX11_takes 24 = .ok (.aload_n 0, 1) := by decide +kernel
theorem dX11_takes_25 : decode cX11_takes 25 = .ok (.getfield 40, 3) := by decide +kernel
theorem dX11_takes_28 : decode cX11_takes 28 = .ok (.getfield 132, 3) := by decide +kernel
theorem dX11_takes_31 : decode cX11_takes 31 = .ok (.istore 4, 2) := by decide +kernel
theorem dX11_takes_33 : decode cX11_takes 33 = .ok (.iload 4, 2) := by decide +kernel
theorem dX11_takes_35 : decode cX11_takes 35 = .ok (.bipush 8, 2) := by decide +kernel
theorem dX11_takes_37 : decode cX11_takes 37 = .ok (.if_icmp .ge 25, 3) := by decide +kernel
theorem dX11_takes_40 : decode cX11_takes 40 = .ok (.aload_n 0, 1) := by decide +kernel
theorem dX11_takes_41 : decode cX11_takes 41 = .ok (.iload_n 1, 1) := by decide +kernel
theorem dX11_takes_42 : decode cX11_takes 42 = .ok (.iload_n 2, 1) := by decide +kernel
theorem dX11_takes_43 : decode cX11_takes 43 = .ok (.invokevirtual 277, 3) := by decide +kernel
theorem dX11_takes_46 : decode cX11_takes 46 = .ok (.bipush (-2), 2) := by decide +kernel
theorem dX11_takes_48 : decode cX11_takes 48 = .ok (.if_icmp .ne 5, 3) := by decide +kernel
theorem dX11_takes_51 : decode cX11_takes 51 = .ok (.iload_n 3, 1) := by decide +kernel
theorem dX11_takes_52 : decode cX11_takes 52 = .ok (.ireturn, 1) := by decide +kernel
theorem dX11_takes_53 : decode cX11_takes 53 = .ok (.iinc 3 1, 3) := by decide +kernel
theorem dX11_takes_56 : decode cX11_takes 56 = .ok (.iinc 4 1, 3) := by decide +kernel
end
section
theorem dX11_takes_59 : decode cX11_takes 59 = .ok (.goto (-26), 3) := by decide +kernel
theorem dX11_takes_62 : decode cX11_takes 62 = .ok (.iload_n 3, 1) := by decide +kernel
theorem dX11_takes_63 : decode cX11_takes 63 = .ok (.ireturn, 1) := by decide +kernel
theorem dX11_ledger_0 : decode cX11_ledger 0 = .ok (.iload_n 1, 1) := by decide +kernel
theorem dX11_ledger_1 : decode cX11_ledger 1 = .ok (.iconst (-1), 1) := by decide +kernel
theorem dX11_ledger_2 : decode cX11_ledger 2 = .ok (.if_icmp .lt 13, 3) := by decide +kernel
theorem dX11_ledger_5 : decode cX11_ledger 5 = .ok (.iconst 0, 1) := by decide +kernel
theorem dX11_ledger_6 : decode cX11_ledger 6 = .ok (.iload_n 2, 1) := by decide +kernel
theorem dX11_ledger_7 : decode cX11_ledger 7 = .ok (.bipush 6, 2) := by decide +kernel
theorem dX11_ledger_9 : decode cX11_ledger 9 = .ok (.invokestatic 147, 3) := by decide +kernel
theorem dX11_ledger_12 : decode cX11_ledger 12 = .ok (.ifCond .ne 5, 3) := by decide +kernel
theorem dX11_ledger_15 : decode cX11_ledger 15 = .ok (.iconst (-1), 1) := by decide +kernel
theorem dX11_ledger_16 : decode cX11_ledger 16 = .ok (.ireturn, 1) := by decide +kernel
theorem dX11_ledger_17 : decode cX11_ledger 17 = .ok (.iload_n 1, 1) := by decide +kernel
theorem dX11_ledger_18 : decode cX11_ledger 18 = .ok (.ifCond .lt 30, 3) := by decide +kernel
theorem dX11_ledger_21 : decode cX11_ledger 21 = .ok (.iload_n 1, 1) := by decide +kernel
theorem dX11_ledger_22 : decode cX11_ledger 22 = .ok (.aload_n 0, 1) := by decide +kernel
theorem dX11_ledger_23 : decode cX11_ledger 23 = .ok (.getfield 40, 3) := by decide +kernel
theorem dX11_ledger_26 : decode cX11_ledger 26 = .ok (.getfield 132, 3) := by decide +kernel
theorem dX11_ledger_29 : decode cX11_ledger 29 = .ok (.if_icmp .ge 19, 3) := by decide +kernel
theorem dX11_ledger_32 : decode cX11_ledger 32 = .ok (.iload_n 2, 1) := by decide +kernel
theorem dX11_ledger_33 : decode cX11_ledger 33 = .ok (.bipush 6, 2) := by decide +kernel
theorem dX11_ledger_35 : decode cX11_ledger 35 = .ok (.if_icmp .ne 13, 3) := by decide +kernel
theorem dX11_ledger_38 : decode cX11_ledger 38 = .ok (.aload_n 0, 1) := by decide +kernel
theorem dX11_ledger_39 : decode cX11_ledger 39 = .ok (.getfield 40, 3) := by decide +kernel
theorem dX11_ledger_42 : decode cX11_ledger 42 = .ok (.getfield 280, 3) := by decide +kernel
theorem dX11_ledger_45 : decode cX11_ledger 45 = .ok (.iload_n 1, 1) := by decide +kernel
theorem dX11_ledger_46 : decode cX11_ledger 46 = .ok (.iaload, 1) := by decide +kernel
theorem dX11_ledger_47 : decode cX11_ledger 47 = .ok (.ireturn, 1) := by decide +kernel
theorem dX11_ledger_48 : decode cX11_ledger 48 = .ok (.aload_n 0, 1) := by decide +kernel
theorem dX11_ledger_49 : decode cX11_ledger 49 = .ok (.getfield 40, 3) := by decide +kernel
theorem dX11_ledger_52 : decode cX11_ledger 52 = .ok (.getfield 283, 3) := by decide +kernel
theorem dX11_ledger_55 : decode cX11_ledger 55 = .ok (.aload_n 0, 1) := by decide +kernel
theorem dX11_ledger_56 : decode cX11_ledger 56 = .ok (.getfield 40, 3) := by decide +kernel
theorem dX11_ledger_59 : decode cX11_ledger 59 = .ok (.getfield 132, 3) := by decide +kernel
theorem dX11_ledger_62 : decode cX11_ledger 62 = .ok (.iload_n 1, 1) := by decide +kernel
theorem dX11_ledger_63 : decode cX11_ledger 63 = .ok (.iload_n 2, 1) := by decide +kernel
theorem dX11_ledger_64 : decode cX11_ledger 64 = .ok (.invokestatic 264, 3) := by decide +kernel
theorem dX11_ledger_67 : decode cX11_ledger 67 = .ok (.ireturn, 1) := by decide +kernel
theorem dX11_count_0 : decode cX11_count 0 = .ok (.iload_n 1, 1) := by decide +kernel
theorem dX11_count_1 : decode cX11_count 1 = .ok (.tableswitch 138 0 10 #[59, 67, 75, 83, 91, 99, 107, 115, 123, 128, 133], 59) := by decide +kernel
theorem dX11_count_60 : decode cX11_count 60 = .ok (.aload_n 0, 1) := by decide +kernel
theorem dX11_count_61 : decode cX11_count 61 = .ok (.getfield 26, 3) := by decide +kernel
theorem dX11_count_64 : decode cX11_count 64 = .ok (.getfield 199, 3) := by decide +kernel
theorem dX11_count_67 : decode cX11_count 67 = .ok (.ireturn, 1) := by decide +kernel
theorem dX11_count_68 : decode cX11_count 68 = .ok (.aload_n 0, 1) := by decide +kernel
theorem dX11_count_69 : decode cX11_count 69 = .ok (.getfield 26, 3) := by decide +kernel
theorem dX11_count_72 : decode cX11_count 72 = .ok (.getfield 196, 3) := by decide +kernel
theorem dX11_count_75 : decode cX11_count 75 = .ok (.ireturn, 1) := by decide +kernel
theorem dX11_count_76 : decode cX11_count 76 = .ok (.aload_n 0, 1) := by decide +kernel
theorem dX11_count_77 : decode cX11_count 77 = .ok (.getfield 26, 3) := by decide +kernel
theorem dX11_count_80 : decode cX11_count 80 = .ok (.invokevirtual 140, 3) := by decide +kernel
theorem dX11_count_83 : decode cX11_count 83 = .ok (.ireturn, 1) := by decide +kernel
theorem dX11_count_84 : decode cX11_count 84 = .ok (.aload_n 0, 1) := by decide +kernel
theorem dX11_count_85 : decode cX11_count 85 = .ok (.getfield 26, 3) := by decide +kernel
theorem dX11_count_88 : decode cX11_count 88 = .ok (.getfield 126, 3) := by decide +kernel
theorem dX11_count_91 : decode cX11_count 91 = .ok (.ireturn, 1) := by decide +kernel
theorem dX11_count_92 : decode cX11_count 92 = .ok (.aload_n 0, 1) := by decide +kernel
theorem dX11_count_93 : decode cX11_count 93 = .ok (.getfield 26, 3) := by decide +kernel
theorem dX11_count_96 : decode cX11_count 96 = .ok (.getfield 176, 3) := by decide +kernel
theorem dX11_count_99 : decode cX11_count 99 = .ok (.ireturn, 1) := by decide +kernel
theorem dX11_count_100 : decode cX11_count 100 = .ok (.aload_n 0, 1) := by decide +kernel
theorem dX11_count_101 : decode cX11_count 101 = .ok (.getfield 26, 3) := by decide +kernel
theorem dX11_count_104 : decode cX11_count 104 = .ok (.getfield 179, 3) := by decide +kernel
theorem dX11_count_107 : decode cX11_count 107 = .ok (.ireturn, 1) := by decide +kernel
theorem dX11_count_108 : decode cX11_count 108 = .ok (.aload_n 0, 1) := by decide +kernel
theorem dX11_count_109 : decode cX11_count 109 = .ok (.getfield 33, 3) := by decide +kernel
theorem dX11_count_112 : decode cX11_count 112 = .ok (.getfield 129, 3) := by decide +kernel
theorem dX11_count_115 : decode cX11_count 115 = .ok (.ireturn, 1) := by decide +kernel
theorem dX11_count_116 : decode cX11_count 116 = .ok (.aload_n 0, 1) := by decide +kernel
theorem dX11_count_117 : decode cX11_count 117 = .ok (.getfield 10, 3) := by decide +kernel
theorem dX11_count_120 : decode cX11_count 120 = .ok (.getfield 121, 3) := by decide +kernel
theorem dX11_count_123 : decode cX11_count 123 = .ok (.ireturn, 1) := by decide +kernel
theorem dX11_count_124 : decode cX11_count 124 = .ok (.aload_n 0, 1) := by decide +kernel
theorem dX11_count_125 : decode cX11_count 125 = .ok (.getfield 79, 3) := by decide +kernel
theorem dX11_count_128 : decode cX11_count 128 = .ok (.ireturn, 1) := by decide +kernel
theorem dX11_count_129 : decode cX11_count 129 = .ok (.aload_n 0, 1) := by decide +kernel
theorem dX11_count_130 : decode cX11_count 130 = .ok (.getfield 83, 3) := by decide +kernel
theorem dX11_count_133 : decode cX11_count 133 = .ok (.ireturn, 1) := by decide +kernel
theorem dX11_count_134 : decode cX11_count 134 = .ok (.aload_n 0, 1) := by decide +kernel
theorem dX11_count_135 : decode cX11_count 135 = .ok (.getfield 86, 3) := by decide +kernel
theorem dX11_count_138 : decode cX11_count 138 = .ok (.ireturn, 1) := by decide +kernel
theorem dX11_count_139 : decode cX11_count 139 = .ok (.iconst (-1), 1) := by decide +kernel
theorem dX11_count_140 : decode cX11_count 140 = .ok (.ireturn, 1) := by decide +kernel
theorem dX11_isFrom_0 : decode cX11_isFrom 0 = .ok (.iload_n 1, 1) := by decide +kernel
theorem dX11_isFrom_1 : decode cX11_isFrom 1 = .ok (.iload_n 0, 1) := by decide +kernel
theorem dX11_isFrom_2 : decode cX11_isFrom 2 = .ok (.if_icmp .lt 12, 3) := by decide +kernel
theorem dX11_isFrom_5 : decode cX11_isFrom 5 = .ok (.iload_n 1, 1) := by decide +kernel
theorem dX11_isFrom_6 : decode cX11_isFrom 6 = .ok (.iload_n 2, 1) := by decide +kernel
theorem dX11_isFrom_7 : decode cX11_isFrom 7 = .ok (.if_icmp .gt 7, 3) := by decide +kernel
theorem dX11_isFrom_10 : decode cX11_isFrom 10 = .ok (.iconst 1, 1) := by decide +kernel
theorem dX11_isFrom_11 : decode cX11_isFrom 11 = .ok (.goto 4, 3) := by decide +kernel
theorem dX11_isFrom_14 : decode cX11_isFrom 14 = .ok (.iconst 0, 1) := by decide +kernel
theorem dX11_isFrom_15 : decode cX11_isFrom 15 = .ok (.ireturn, 1) := by decide +kernel
theorem dX11_isDot_0 : decode cX11_isDot 0 = .ok (.iload_n 1, 1) := by decide +kernel
theorem dX11_isDot_1 : decode cX11_isDot 1 = .ok (.ifCond .lt 18, 3) := by decide +kernel
theorem dX11_isDot_4 : decode cX11_isDot 4 = .ok (.iload_n 1, 1) := by decide +kernel
theorem dX11_isDot_5 : decode cX11_isDot 5 = .ok (.aload_n 0, 1) := by decide +kernel
theorem dX11_isDot_6 : decode cX11_isDot 6 = .ok (.getfield 26, 3) := by decide +kernel
theorem dX11_isDot_9 : decode cX11_isDot 9 = .ok (.getfield 126, 3) := by decide +kernel
theorem dX11_isDot_12 : decode cX11_isDot 12 = .ok (.if_icmp .ge 7, 3) := by decide +kernel
theorem dX11_isDot_15 : decode cX11_isDot 15 = .ok (.iconst 1, 1) := by decide +kernel
theorem dX11_isDot_16 : decode cX11_isDot 16 = .ok (.goto 4, 3) := by decide +kernel
theorem dX11_isDot_19 : decode cX11_isDot 19 = .ok (.iconst 0, 1) := by decide +kernel
theorem dX11_isDot_20 : decode cX11_isDot 20 = .ok (.ireturn, 1) := by decide +kernel
theorem dX11_lookAt_0 : decode cX11_lookAt 0 = .ok (.aload_n 0, 1) := by decide +kernel
theorem dX11_lookAt_1 : decode cX11_lookAt 1 = .ok (.iload_n 1, 1) := by decide +kernel
theorem dX11_lookAt_2 : decode cX11_lookAt 2 = .ok (.putfield 79, 3) := by decide +kernel
theorem dX11_lookAt_5 : decode cX11_lookAt 5 = .ok (.aload_n 0, 1) := by decide +kernel
theorem dX11_lookAt_6 : decode cX11_lookAt 6 = .ok (.iload_n 2, 1) := by decide +kernel
theorem dX11_lookAt_7 : decode cX11_lookAt 7 = .ok (.putfield 83, 3) := by decide +kernel
theorem dX11_lookAt_10 : decode cX11_lookAt 10 = .ok (.aload_n 0, 1) := by decide +kernel
theorem dX11_lookAt_11 : decode cX11_lookAt 11 = .ok (.iload_n 3, 1) := by decide +kernel
theorem dX11_lookAt_12 : decode cX11_lookAt 12 = .ok (.putfield 86, 3) := by decide +kernel
theorem dX11_lookAt_15 : decode cX11_lookAt 15 = .ok (.return_, 1) := by decide +kernel
theorem dX11_lookedAt_0 : decode cX11_lookedAt 0 = .ok (.aload_n 0, 1) := by decide +kernel
theorem dX11_lookedAt_1 : decode cX11_lookedAt 1 = .ok (.getfield 61, 3) := by decide +kernel
theorem dX11_lookedAt_4 : decode cX11_lookedAt 4 = .ok (.aload_n 0, 1) := by decide +kernel
theorem dX11_lookedAt_5 : decode cX11_lookedAt 5 = .ok (.getfield 26, 3) := by decide +kernel
theorem dX11_lookedAt_8 : decode cX11_lookedAt 8 = .ok (.aload_n 0, 1) := by decide +kernel
theorem dX11_lookedAt_9 : decode cX11_lookedAt 9 = .ok (.getfield 79, 3) := by decide +kernel
theorem dX11_lookedAt_12 : decode cX11_lookedAt 12 = .ok (.aload_n 0, 1) := by decide +kernel
theorem dX11_lookedAt_13 : decode cX11_lookedAt 13 = .ok (.getfield 83, 3) := by decide +kernel
theorem dX11_lookedAt_16 : decode cX11_lookedAt 16 = .ok (.aload_n 0, 1) := by decide +kernel
theorem dX11_lookedAt_17 : decode cX11_lookedAt 17 = .ok (.getfield 86, 3) := by decide +kernel
theorem dX11_lookedAt_20 : decode cX11_lookedAt 20 = .ok (.invokevirtual 286, 3) := by decide +kernel
theorem dX11_lookedAt_23 : decode cX11_lookedAt 23 = .ok (.aload_n 0, 1) := by decide +kernel
theorem dX11_lookedAt_24 : decode cX11_lookedAt 24 = .ok (.getfield 61, 3) := by decide +kernel
theorem dX11_lookedAt_27 : decode cX11_lookedAt 27 = .ok (.areturn, 1) := by decide +kernel
theorem dX11_startChange_0 : decode cX11_startChange 0 = .ok (.aload_n 0, 1) := by decide +kernel
theorem dX11_startChange_1 : decode cX11_startChange 1 = .ok (.getfield 33, 3) := by decide +kernel
theorem dX11_startChange_4 : decode cX11_startChange 4 = .ok (.aload_n 0, 1) := by decide +kernel
theorem dX11_startChange_5 : decode cX11_startChange 5 = .ok (.getfield 26, 3) := by decide +kernel
theorem dX11_startChange_8 : decode cX11_startChange 8 = .ok (.aload_n 0, 1) := by decide +kernel
theorem dX11_startChange_9 : decode cX11_startChange 9 = .ok (.getfield 40, 3) := by decide +kernel
theorem dX11_startChange_12 : decode cX11_startChange 12 = .ok (.getfield 132, 3) := by decide +kernel
theorem dX11_startChange_15 : decode cX11_startChange 15 = .ok (.invokevirtual 290, 3) := by decide +kernel
theorem dX11_startChange_18 : decode cX11_startChange 18 = .ok (.aload_n 0, 1) := by decide +kernel
theorem dX11_startChange_19 : decode cX11_startChange 19 = .ok (.invokevirtual 137, 3) := by decide +kernel
theorem dX11_startChange_22 : decode cX11_startChange 22 = .ok (.return_, 1) := by decide +kernel
theorem dX11_makeStale_0 : decode cX11_makeStale 0 = .ok (.aload_n 0, 1) := by decide +kernel
theorem dX11_makeStale_1 : decode cX11_makeStale 1 = .ok (.iconst 1, 1) := by decide +kernel
theorem dX11_makeStale_2 : decode cX11_makeStale 2 = .ok (.putfield 89, 3) := by decide +kernel
theorem dX11_makeStale_5 : decode cX11_makeStale 5 = .ok (.aload_n 0, 1) := by decide +kernel
theorem dX11_makeStale_6 : decode cX11_makeStale 6 = .ok (.iconst 1, 1) := by decide +kernel
theorem dX11_makeStale_7 : decode cX11_makeStale 7 = .ok (.putfield 93, 3) := by decide +kernel
theorem dX11_makeStale_10 : decode cX11_makeStale 10 = .ok (.return_, 1) := by decide +kernel
theorem dX11_freshField_0 : decode cX11_freshField 0 = .ok (.aload_n 0, 1) := by decide +kernel
theorem dX11_freshField_1 : decode cX11_freshField 1 = .ok (.getfield 89, 3) := by decide +kernel
theorem dX11_freshField_4 : decode cX11_freshField 4 = .ok (.ifCond .eq 19, 3) := by decide +kernel
theorem dX11_freshField_7 : decode cX11_freshField 7 = .ok (.aload_n 0, 1) := by decide +kernel
theorem dX11_freshField_8 : decode cX11_freshField 8 = .ok (.getfield 47, 3) := by decide +kernel
theorem dX11_freshField_11 : decode cX11_freshField 11 = .ok (.aload_n 0, 1) := by decide +kernel
theorem dX11_freshField_12 : decode cX11_freshField 12 = .ok (.getfield 26, 3) := by decide +kernel
theorem dX11_freshField_15 : decode cX11_freshField 15 = .ok (.invokevirtual 294, 3) := by decide +kernel
theorem dX11_freshField_18 : decode cX11_freshField 18 = .ok (.aload_n 0, 1) := by decide +kernel
theorem dX11_freshField_19 : decode cX11_freshField 19 = .ok (.iconst 0, 1) := by decide +kernel
theorem dX11_freshField_20 : decode cX11_freshField 20 = .ok (.putfield 89, 3) := by decide +kernel
theorem dX11_freshField_23 : decode cX11_freshField 23 = .ok (.aload_n 0, 1) := by decide +kernel
theorem dX11_freshField_24 : decode cX11_freshField 24 = .ok (.getfield 47, 3) := by decide +kernel
theorem dX11_freshField_27 : decode cX11_freshField 27 = .ok (.areturn, 1) := by decide +kernel
theorem dX11_freshRanking_0 : decode cX11_freshRanking 0 = .ok (.aload_n 0, 1) := by decide +kernel
theorem dX11_freshRanking_1 : decode cX11_freshRanking 1 = .ok (.getfield 93, 3) := by decide +kernel
theorem dX11_freshRanking_4 : decode cX11_freshRanking 4 = .ok (.ifCond .eq 23, 3) := by decide +kernel
theorem dX11_freshRanking_7 : decode cX11_freshRanking 7 = .ok (.aload_n 0, 1) := by decide +kernel
theorem dX11_freshRanking_8 : decode cX11_freshRanking 8 = .ok (.getfield 54, 3) := by decide +kernel
theorem dX11_freshRanking_11 : decode cX11_freshRanking 11 = .ok (.aload_n 0, 1) := by decide +kernel
theorem dX11_freshRanking_12 : decode cX11_freshRanking 12 = .ok (.getfield 26, 3) := by decide +kernel
theorem dX11_freshRanking_15 : decode cX11_freshRanking 15 = .ok (.aload_n 0, 1) := by decide +kernel
theorem dX11_freshRanking_16 : decode cX11_freshRanking 16 = .ok (.invokevirtual 186, 3) := by decide +kernel
theorem dX11_freshRanking_19 : decode cX11_freshRanking 19 = .ok (.invokevirtual 297, 3) := by decide +kernel
theorem dX11_freshRanking_22 : decode cX11_freshRanking 22 = .ok (.aload_n 0, 1) := by decide +kernel
theorem dX11_freshRanking_23 : decode cX11_freshRanking 23 = .ok (.iconst 0, 1) := by decide +kernel
theorem dX11_freshRanking_24 : decode cX11_freshRanking 24 = .ok (.putfield 93, 3) := by decide +kernel
theorem dX11_freshRanking_27 : decode cX11_freshRanking 27 = .ok (.aload_n 0, 1) := by decide +kernel
theorem dX11_freshRanking_28 : decode cX11_freshRanking 28 = .ok (.getfield 54, 3) := by decide +kernel
theorem dX11_freshRanking_31 : decode cX11_freshRanking 31 = .ok (.areturn, 1) := by decide +kernel
theorem dX11_partOf_0 : decode cX11_partOf 0 = .ok (.iload_n 2, 1) := by decide +kernel
theorem dX11_partOf_1 : decode cX11_partOf 1 = .ok (.iconst (-1), 1) := by decide +kernel
theorem dX11_partOf_2 : decode cX11_partOf 2 = .ok (.if_icmp .ne 5, 3) := by decide +kernel
theorem dX11_partOf_5 : decode cX11_partOf 5 = .ok (.iload_n 1, 1) := by decide +kernel
theorem dX11_partOf_6 : decode cX11_partOf 6 = .ok (.ireturn, 1) := by decide +kernel
theorem dX11_partOf_7 : decode cX11_partOf 7 = .ok (.iload_n 2, 1) := by decide +kernel
theorem dX11_partOf_8 : decode cX11_partOf 8 = .ok (.ifCond .lt 24, 3) := by decide +kernel
theorem dX11_partOf_11 : decode cX11_partOf 11 = .ok (.iload_n 2, 1) := by decide +kernel
theorem dX11_partOf_12 : decode cX11_partOf 12 = .ok (.iload_n 1, 1) := by decide +kernel
theorem dX11_partOf_13 : decode cX11_partOf 13 = .ok (.if_icmp .ge 19, 3) := by decide +kernel
theorem dX11_partOf_16 : decode cX11_partOf 16 = .ok (.iload_n 2, 1) := by decide +kernel
theorem dX11_partOf_17 : decode cX11_partOf 17 = .ok (.aload_n 0, 1) := by decide +kernel
theorem dX11_partOf_18 : decode cX11_partOf 18 = .ok (.arraylength, 1) := by decide +kernel
theorem dX11_partOf_19 : decode cX11_partOf 19 = .ok (.if_icmp .ge 13, 3) := by decide +kernel
theorem dX11_partOf_22 : decode cX11_partOf 22 = .ok (.aload_n 0, 1) := by decide +kernel
theorem dX11_partOf_23 : decode cX11_partOf 23 = .ok (.iload_n 2, 1) := by decide +kernel
theorem dX11_partOf_24 : decode cX11_partOf 24 = .ok (.iaload, 1) := by decide +kernel
theorem dX11_partOf_25 : decode cX11_partOf 25 = .ok (.iload_n 3, 1) := by decide +kernel
theorem dX11_partOf_26 : decode cX11_partOf 26 = .ok (.invokestatic 300, 3) := by decide +kernel
theorem dX11_partOf_29 : decode cX11_partOf 29 = .ok (.goto 5, 3) := by decide +kernel
theorem dX11_partOf_32 : decode cX11_partOf 32 = .ok (.bipush (-4), 2) := by decide +kernel
theorem dX11_partOf_34 : decode cX11_partOf 34 = .ok (.ireturn, 1) := by decide +kernel
theorem dX11_takeFirst_0 : decode cX11_takeFirst 0 = .ok (.aload_n 0, 1) := by decide +kernel
theorem dX11_takeFirst_1 : decode cX11_takeFirst 1 = .ok (.invokevirtual 254, 3) := by decide +kernel
theorem dX11_takeFirst_4 : decode cX11_takeFirst 4 = .ok (.astore_n 3, 1) := by decide +kernel
theorem dX11_takeFirst_5 : decode cX11_takeFirst 5 = .ok (.aload_n 3, 1) := by decide +kernel
theorem dX11_takeFirst_6 : decode cX11_takeFirst 6 = .ok (.getfield 261, 3) := by decide +kernel
theorem dX11_takeFirst_9 : decode cX11_takeFirst 9 = .ok (.ifCond .ne 6, 3) := by decide +kernel
theorem dX11_takeFirst_12 : decode cX11_takeFirst 12 = .ok (.bipush (-2), 2) := by decide +kernel
theorem dX11_takeFirst_14 : decode cX11_takeFirst 14 = .ok (.ireturn, 1) := by decide +kernel
theorem dX11_takeFirst_15 : decode cX11_takeFirst 15 = .ok (.aload_n 3, 1) := by decide +kernel
theorem dX11_takeFirst_16 : decode cX11_takeFirst 16 = .ok (.getfield 258, 3) := by decide +kernel
theorem dX11_takeFirst_19 : decode cX11_takeFirst 19 = .ok (.iconst 0, 1) := by decide +kernel
theorem dX11_takeFirst_20 : decode cX11_takeFirst 20 = .ok (.iaload, 1) := by decide +kernel
theorem dX11_takeFirst_21 : decode cX11_takeFirst 21 = .ok (.istore 4, 2) := by decide +kernel
theorem dX11_takeFirst_23 : decode cX11_takeFirst 23 = .ok (.iload 4, 2) := by decide +kernel
theorem dX11_takeFirst_25 : decode cX11_takeFirst 25 = .ok (.iconst 5, 1) := by decide +kernel
theorem dX11_takeFirst_26 : decode cX11_takeFirst 26 = .ok (.invokestatic 300, 3) := by decide +kernel
theorem dX11_takeFirst_29 : decode cX11_takeFirst 29 = .ok (.iload_n 2, 1) := by decide +kernel
theorem dX11_takeFirst_30 : decode cX11_takeFirst 30 = .ok (.if_icmp .le 6, 3) := by decide +kernel
theorem dX11_takeFirst_33 : decode cX11_takeFirst 33 = .ok (.bipush (-2), 2) := by decide +kernel
theorem dX11_takeFirst_35 : decode cX11_takeFirst 35 = .ok (.ireturn, 1) := by decide +kernel
theorem dX11_takeFirst_36 : decode cX11_takeFirst 36 = .ok (.aload_n 0, 1) := by decide +kernel
theorem dX11_takeFirst_37 : decode cX11_takeFirst 37 = .ok (.getfield 61, 3) := by decide +kernel
theorem dX11_takeFirst_40 : decode cX11_takeFirst 40 = .ok (.aload_n 0, 1) := by decide +kernel
theorem dX11_takeFirst_41 : decode cX11_takeFirst 41 = .ok (.getfield 26, 3) := by decide +kernel
theorem dX11_takeFirst_44 : decode cX11_takeFirst 44 = .ok (.iload 4, 2) := by decide +kernel
theorem dX11_takeFirst_46 : decode cX11_takeFirst 46 = .ok (.iconst 2, 1) := by decide +kernel
theorem dX11_takeFirst_47 : decode cX11_takeFirst 47 = .ok (.invokestatic 300, 3) := by decide +kernel
theorem dX11_takeFirst_50 : decode cX11_takeFirst 50 = .ok (.iload 4, 2) := by decide +kernel
theorem dX11_takeFirst_52 : decode cX11_takeFirst 52 = .ok (.iconst 3, 1) := by decide +kernel
theorem dX11_takeFirst_53 : decode cX11_takeFirst 53 = .ok (.invokestatic 300, 3) := by decide +kernel
theorem dX11_takeFirst_56 : decode cX11_takeFirst 56 = .ok (.iload 4, 2) := by decide +kernel
theorem dX11_takeFirst_58 : decode cX11_takeFirst 58 = .ok (.iconst 4, 1) := by decide +kernel
theorem dX11_takeFirst_59 : decode cX11_takeFirst 59 = .ok (.invokestatic 300, 3) := by decide +kernel
theorem dX11_takeFirst_62 : decode cX11_takeFirst 62 = .ok (.invokevirtual 286, 3) := by decide +kernel
theorem dX11_takeFirst_65 : decode cX11_takeFirst 65 = .ok (.aload_n 0, 1) := by decide +kernel
theorem dX11_takeFirst_66 : decode cX11_takeFirst 66 = .ok (.getfield 75, 3) := by decide +kernel
theorem dX11_takeFirst_69 : decode cX11_takeFirst 69 = .ok (.aload_n 0, 1) := by decide +kernel
theorem dX11_takeFirst_70 : decode cX11_takeFirst 70 = .ok (.getfield 26, 3) := by decide +kernel
theorem dX11_takeFirst_73 : decode cX11_takeFirst 73 = .ok (.aload_n 0, 1) := by decide +kernel
theorem dX11_takeFirst_74 : decode cX11_takeFirst 74 = .ok (.getfield 61, 3) := by decide +kernel
theorem dX11_takeFirst_77 : decode cX11_takeFirst 77 = .ok (.iload 4, 2) := by decide +kernel
theorem dX11_takeFirst_79 : decode cX11_takeFirst 79 = .ok (.iconst 0, 1) := by decide +kernel
theorem dX11_takeFirst_80 : decode cX11_takeFirst 80 = .ok (.invokestatic 300, 3) := by decide +kernel
theorem dX11_takeFirst_83 : decode cX11_takeFirst 83 = .ok (.iload 4, 2) := by decide +kernel
theorem dX11_takeFirst_85 : decode cX11_takeFirst 85 = .ok (.iconst 1, 1) := by decide +kernel
theorem dX11_takeFirst_86 : decode cX11_takeFirst 86 = .ok (.invokestatic 300, 3) := by decide +kernel
theorem dX11_takeFirst_89 : decode cX11_takeFirst 89 = .ok (.iload_n 1, 1) := by decide +kernel
theorem dX11_takeFirst_90 : decode cX11_takeFirst 90 = .ok (.invokevirtual 250, 3) := by decide +kernel
theorem dX11_takeFirst_93 : decode cX11_takeFirst 93 = .ok (.istore 5, 2) := by decide +kernel
theorem dX11_takeFirst_95 : decode cX11_takeFirst 95 = .ok (.iload 5, 2) := by decide +kernel
theorem dX11_takeFirst_97 : decode cX11_takeFirst 97 = .ok (.ifCond .ne 6, 3) := by decide +kernel
theorem dX11_takeFirst_100 : decode cX11_takeFirst 100 = .ok (.bipush (-2), 2) := by decide +kernel
theorem dX11_takeFirst_102 : decode cX11_takeFirst 102 = .ok (.ireturn, 1) := by decide +kernel
theorem dX11_takeFirst_103 : decode cX11_takeFirst 103 = .ok (.aload_n 0, 1) := by decide +kernel
theorem dX11_takeFirst_104 : decode cX11_takeFirst 104 = .ok (.invokevirtual 155, 3) := by decide +kernel
theorem dX11_takeFirst_107 : decode cX11_takeFirst 107 = .ok (.aload_n 0, 1) := by decide +kernel
theorem dX11_takeFirst_108 : decode cX11_takeFirst 108 = .ok (.getfield 26, 3) := by decide +kernel
theorem dX11_takeFirst_111 : decode cX11_takeFirst 111 = .ok (.aload_n 0, 1) := by decide +kernel
theorem dX11_takeFirst_112 : decode cX11_takeFirst 112 = .ok (.getfield 75, 3) := by decide +kernel
theorem dX11_takeFirst_115 : decode cX11_takeFirst 115 = .ok (.getfield 305, 3) := by decide +kernel
theorem dX11_takeFirst_118 : decode cX11_takeFirst 118 = .ok (.invokevirtual 308, 3) := by decide +kernel
theorem dX11_takeFirst_121 : decode cX11_takeFirst 121 = .ok (.aload_n 0, 1) := by decide +kernel
theorem dX11_takeFirst_122 : decode cX11_takeFirst 122 = .ok (.getfield 40, 3) := by decide +kernel
theorem dX11_takeFirst_125 : decode cX11_takeFirst 125 = .ok (.iload 4, 2) := by decide +kernel
theorem dX11_takeFirst_127 : decode cX11_takeFirst 127 = .ok (.iload 5, 2) := by decide +kernel
theorem dX11_takeFirst_129 : decode cX11_takeFirst 129 = .ok (.invokevirtual 312, 3) := by decide +kernel
theorem dX11_takeFirst_132 : decode cX11_takeFirst 132 = .ok (.iload 5, 2) := by decide +kernel
theorem dX11_takeFirst_134 : decode cX11_takeFirst 134 = .ok (.ireturn, 1) := by decide +kernel
theorem dX12_in_0 : decode cX12_in 0 = .ok (.iload_n 0, 1) := by decide +kernel
theorem dX12_in_1 : decode cX12_in 1 = .ok (.iload_n 1, 1) := by decide +kernel
theorem dX12_in_2 : decode cX12_in 2 = .ok (.if_icmp .lt 12, 3) := by decide +kernel
theorem dX12_in_5 : decode cX12_in 5 = .ok (.iload_n 0, 1) := by decide +kernel
theorem dX12_in_6 : decode cX12_in 6 = .ok (.iload_n 2, 1) := by decide +kernel
theorem dX12_in_7 : decode cX12_in 7 = .ok (.if_icmp .gt 7, 3) := by decide +kernel
theorem dX12_in_10 : decode cX12_in 10 = .ok (.iconst 1, 1) := by decide +kernel
theorem dX12_in_11 : decode cX12_in 11 = .ok (.goto 4, 3) := by decide +kernel
theorem dX12_in_14 : decode cX12_in 14 = .ok (.iconst 0, 1) := by decide +kernel
theorem dX12_in_15 : decode cX12_in 15 = .ok (.ireturn, 1) := by decide +kernel
theorem dX12_init_0 : decode cX12_init 0 = .ok (.aload_n 0, 1) := by decide +kernel
theorem dX12_init_1 : decode cX12_init 1 = .ok (.invokespecial 1, 3) := by decide +kernel
theorem dX12_init_4 : decode cX12_init 4 = .ok (.aload_n 0, 1) := by decide +kernel
theorem dX12_init_5 : decode cX12_init 5 = .ok (.sipush 145, 3) := by decide +kernel
theorem dX12_init_8 : decode cX12_init 8 = .ok (.newarray .int, 2) := by decide +kernel
theorem dX12_init_10 : decode cX12_init 10 = .ok (.putfield 7, 3) := by decide +kernel
theorem dX12_init_13 : decode cX12_init 13 = .ok (.aload_n 0, 1) := by decide +kernel
theorem dX12_init_14 : decode cX12_init 14 = .ok (.sipush 870, 3) := by decide +kernel
theorem dX12_init_17 : decode cX12_init 17 = .ok (.newarray .int, 2) := by decide +kernel
theorem dX12_init_19 : decode cX12_init 19 = .ok (.putfield 13, 3) := by decide +kernel
theorem dX12_init_22 : decode cX12_init 22 = .ok (.aload_n 0, 1) := by decide +kernel
theorem dX12_init_23 : decode cX12_init 23 = .ok (.bipush 56, 2) := by decide +kernel
theorem dX12_init_25 : decode cX12_init 25 = .ok (.newarray .int, 2) := by decide +kernel
theorem dX12_init_27 : decode cX12_init 27 = .ok (.putfield 16, 3) := by decide +kernel
theorem dX12_init_30 : decode cX12_init 30 = .ok (.aload_n 0, 1) := by decide +kernel
theorem dX12_init_31 : decode cX12_init 31 = .ok (.iconst 2, 1) := by decide +kernel
theorem dX12_init_32 : decode cX12_init 32 = .ok (.putfield 19, 3) := by decide +kernel
theorem dX12_init_35 : decode cX12_init 35 = .ok (.aload_n 0, 1) := by decide +kernel
theorem dX12_init_36 : decode cX12_init 36 = .ok (.sipush 200, 3) := by decide +kernel
theorem dX12_init_39 : decode cX12_init 39 = .ok (.newarray .int, 2) := by decide +kernel
theorem dX12_init_41 : decode cX12_init 41 = .ok (.putfield 23, 3) := by decide +kernel
theorem dX12_init_44 : decode cX12_init 44 = .ok (.aload_n 0, 1) := by decide +kernel
theorem dX12_init_45 : decode cX12_init 45 = .ok (.sipush 145, 3) := by decide +kernel
theorem dX12_init_48 : decode cX12_init 48 = .ok (.newarray .int, 2) := by decide +kernel
theorem dX12_init_50 : decode cX12_init 50 = .ok (.putfield 26, 3) := by decide +kernel
theorem dX12_init_53 : decode cX12_init 53 = .ok (.aload_n 0, 1) := by decide +kernel
theorem dX12_init_54 : decode cX12_init 54 = .ok (.bipush 10, 2) := by decide +kernel
theorem dX12_init_56 : decode cX12_init 56 = .ok (.newarray .int, 2) := by decide +kernel
theorem dX12_init_58 : decode cX12_init 58 = .ok (.dup, 1) := by decide +kernel
theorem dX12_init_59 : decode cX12_init 59 = .ok (.iconst 0, 1) := by decide +kernel
theorem dX12_init_60 : decode cX12_init 60 = .ok (.iconst 0, 1) := by decide +kernel
theorem dX12_init_61 : decode cX12_init 61 = .ok (.iastore, 1) := by decide +kernel
theorem dX12_init_62 : decode cX12_init 62 = .ok (.dup, 1) := by decide +kernel
theorem dX12_init_63 : decode cX12_init 63 = .ok (.iconst 1, 1) := by decide +kernel
theorem dX12_init_64 : decode cX12_init 64 = .ok (.bipush 60, 2) := by decide +kernel
theorem dX12_init_66 : decode cX12_init 66 = .ok (.iastore, 1) := by decide +kernel
theorem dX12_init_67 : decode cX12_init 67 = .ok (.dup, 1) := by decide +kernel
theorem dX12_init_68 : decode cX12_init 68 = .ok (.iconst 2, 1) := by decide +kernel
theorem dX12_init_69 : decode cX12_init 69 = .ok (.iconst 4, 1) := by decide +kernel
theorem dX12_init_70 : decode cX12_init 70 = .ok (.iastore, 1) := by decide +kernel
theorem dX12_init_71 : decode cX12_init 71 = .ok (.dup, 1) := by decide +kernel
theorem dX12_init_72 : decode cX12_init 72 = .ok (.iconst 3, 1) := by decide +kernel
theorem dX12_init_73 : decode cX12_init 73 = .ok (.sipush 132, 3) := by decide +kernel
theorem dX12_init_76 : decode cX12_init 76 = .ok (.iastore, 1) := by decide +kernel
theorem dX12_init_77 : decode cX12_init 77 = .ok (.dup, 1) := by decide +kernel
theorem dX12_init_78 : decode cX12_init 78 = .ok (.iconst 4, 1) := by decide +kernel
theorem dX12_init_79 : decode cX12_init 79 = .ok (.sipush 128, 3) := by decide +kernel
theorem dX12_init_82 : decode cX12_init 82 = .ok (.iastore, 1) := by decide +kernel
theorem dX12_init_83 : decode cX12_init 83 = .ok (.dup, 1) := by decide +kernel
theorem dX12_init_84 : decode cX12_init 84 = .ok (.iconst 5, 1) := by decide +kernel
theorem dX12_init_85 : decode cX12_init 85 = .ok (.sipush 240, 3) := by decide +kernel
theorem dX12_init_88 : decode cX12_init 88 = .ok (.iastore, 1) := by decide +kernel
theorem dX12_init_89 : decode cX12_init 89 = .ok (.dup, 1) := by decide +kernel
theorem dX12_init_90 : decode cX12_init 90 = .ok (.bipush 6, 2) := by decide +kernel
theorem dX12_init_92 : decode cX12_init 92 = .ok (.iconst 0, 1) := by decide +kernel
theorem dX12_init_93 : decode cX12_init 93 = .ok (.iastore, 1) := by decide +kernel
theorem dX12_init_94 : decode cX12_init 94 = .ok (.dup, 1) := by decide +kernel
theorem dX12_init_95 : decode cX12_init 95 = .ok (.bipush 7, 2) := by decide +kernel
theorem dX12_init_97 : decode cX12_init 97 = .ok (.iconst 2, 1) := by decide +kernel
theorem dX12_init_98 : decode cX12_init 98 = .ok (.iastore, 1) := by decide +kernel
theorem dX12_init_99 : decode cX12_init 99 = .ok (.dup, 1) := by decide +kernel
theorem dX12_init_100 : decode cX12_init 100 = .ok (.bipush 8, 2) := by decide +kernel
theorem dX12_init_102 : decode cX12_init 102 = .ok (.iconst 2, 1) := by decide +kernel
theorem dX12_init_103 : decode cX12_init 103 = .ok (.iastore, 1) := by decide +kernel
theorem dX12_init_104 : decode cX12_init 104 = .ok (.dup, 1) := by decide +kernel
theorem dX12_init_105 : decode cX12_init 105 = .ok (.bipush 9, 2) := by decide +kernel
theorem dX12_init_107 : decode cX12_init 107 = .ok (.bipush 30, 2) := by decide +kernel
theorem dX12_init_109 : decode cX12_init 109 = .ok (.iastore, 1) := by decide +kernel
theorem dX12_init_110 : decode cX12_init 110 = .ok (.putfield 29, 3) := by decide +kernel
theorem dX12_init_113 : decode cX12_init 113 = .ok (.aload_n 0, 1) := by decide +kernel
theorem dX12_init_114 : decode cX12_init 114 = .ok (.bipush 12, 2) := by decide +kernel
theorem dX12_init_116 : decode cX12_init 116 = .ok (.newarray .int, 2) := by decide +kernel
theorem dX12_init_118 : decode cX12_init 118 = .ok (.dup, 1) := by decide +kernel
theorem dX12_init_119 : decode cX12_init 119 = .ok (.iconst 0, 1) := by decide +kernel
theorem dX12_init_120 : decode cX12_init 120 = .ok (.iconst 0, 1) := by decide +kernel
theorem dX12_init_121 : decode cX12_init 121 = .ok (.iastore, 1) := by decide +kernel
theorem dX12_init_122 : decode cX12_init 122 = .ok (.dup, 1) := by decide +kernel
theorem dX12_init_123 : decode cX12_init 123 = .ok (.iconst 1, 1) := by decide +kernel
theorem dX12_init_124 : decode cX12_init 124 = .ok (.iconst 0, 1) := by decide +kernel
theorem dX12_init_125 : decode cX12_init 125 = .ok (.iastore, 1) := by decide +kernel
theorem dX12_init_126 : decode cX12_init 126 = .ok (.dup, 1) := by decide +kernel
theorem dX12_init_127 : decode cX12_init 127 = .ok (.iconst 2, 1) := by decide +kernel
theorem dX12_init_128 : decode cX12_init 128 = .ok (.iconst 1, 1) := by decide +kernel
theorem dX12_init_129 : decode cX12_init 129 = .ok (.iastore, 1) := by decide +kernel
theorem dX12_init_130 : decode cX12_init 130 = .ok (.dup, 1) := by decide +kernel
theorem dX12_init_131 : decode cX12_init 131 = .ok (.iconst 3, 1) := by decide +kernel
theorem dX12_init_132 : decode cX12_init 132 = .ok (.iconst 0, 1) := by decide +kernel
theorem dX12_init_133 : decode cX12_init 133 = .ok (.iastore, 1) := by decide +kernel
theorem dX12_init_134 : decode cX12_init 134 = .ok (.dup, 1) := by decide +kernel
theorem dX12_init_135 : decode cX12_init 135 = .ok (.iconst 4, 1) := by decide +kernel
theorem dX12_init_136 : decode cX12_init 136 = .ok (.iconst 2, 1) := by decide +kernel
theorem dX12_init_137 : decode cX12_init 137 = .ok (.iastore, 1) := by decide +kernel
theorem dX12_init_138 : decode cX12_init 138 = .ok (.dup, 1) := by decide +kernel
theorem dX12_init_139 : decode cX12_init 139 = .ok (.iconst 5, 1) := by decide +kernel
theorem dX12_init_140 : decode cX12_init 140 = .ok (.iconst 0, 1) := by decide +kernel
theorem dX12_init_141 : decode cX12_init 141 = .ok (.iastore, 1) := by decide +kernel
theorem dX12_init_142 : decode cX12_init 142 = .ok (.dup, 1) := by decide +kernel
theorem dX12_init_143 : decode cX12_init 143 = .ok (.bipush 6, 2) := by decide +kernel
theorem dX12_init_145 : decode cX12_init 145 = .ok (.iconst 3, 1) := by decide +kernel
theorem dX12_init_146 : decode cX12_init 146 = .ok (.iastore, 1) := by decide +kernel
theorem dX12_init_147 : decode cX12_init 147 = .ok (.dup, 1) := by decide +kernel
theorem dX12_init_148 : decode cX12_init 148 = .ok (.bipush 7, 2) := by decide +kernel
theorem dX12_init_150 : decode cX12_init 150 = .ok (.iconst 0, 1) := by decide +kernel
theorem dX12_init_151 : decode cX12_init 151 = .ok (.iastore, 1) := by decide +kernel
theorem dX12_init_152 : decode cX12_init 152 = .ok (.dup, 1) := by decide +kernel
theorem dX12_init_153 : decode cX12_init 153 = .ok (.bipush 8, 2) := by decide +kernel
theorem dX12_init_155 : decode cX12_init 155 = .ok (.iconst 0, 1) := by decide +kernel
theorem dX12_init_156 : decode cX12_init 156 = .ok (.iastore, 1) := by decide +kernel
theorem dX12_init_157 : decode cX12_init 157 = .ok (.dup, 1) := by decide +kernel
theorem dX12_init_158 : decode cX12_init 158 = .ok (.bipush 9, 2) := by decide +kernel
theorem dX12_init_160 : decode cX12_init 160 = .ok (.iconst (-1), 1) := by decide +kernel
theorem dX12_init_161 : decode cX12_init 161 = .ok (.iastore, 1) := by decide +kernel
theorem dX12_init_162 : decode cX12_init 162 = .ok (.dup, 1) := by decide +kernel
theorem dX12_init_163 : decode cX12_init 163 = .ok (.bipush 10, 2) := by decide +kernel
theorem dX12_init_165 : decode cX12_init 165 = .ok (.iconst 0, 1) := by decide +kernel
theorem dX12_init_166 : decode cX12_init 166 = .ok (.iastore, 1) := by decide +kernel
theorem dX12_init_167 : decode cX12_init 167 = .ok (.dup, 1) := by decide +kernel
theorem dX12_init_168 : decode cX12_init 168 = .ok (.bipush 11, 2) := by decide +kernel
theorem dX12_init_170 : decode cX12_init 170 = .ok (.bipush (-2), 2) := by decide +kernel
theorem dX12_init_172 : decode cX12_init 172 = .ok (.iastore, 1) := by decide +kernel
theorem dX12_init_173 : decode cX12_init 173 = .ok (.putfield 32, 3) := by decide +kernel
theorem dX12_init_176 : decode cX12_init 176 = .ok (.aload_n 0, 1) := by decide +kernel
theorem dX12_init_177 : decode cX12_init 177 = .ok (.bipush 121, 2) := by decide +kernel
theorem dX12_init_179 : decode cX12_init 179 = .ok (.newarray .int, 2) := by decide +kernel
theorem dX12_init_181 : decode cX12_init 181 = .ok (.putfield 35, 3) := by decide +kernel
theorem dX12_init_184 : decode cX12_init 184 = .ok (.aload_n 0, 1) := by decide +kernel
theorem dX12_init_185 : decode cX12_init 185 = .ok (.sipush 2904, 3) := by decide +kernel
theorem dX12_init_188 : decode cX12_init 188 = .ok (.newarray .int, 2) := by decide +kernel
theorem dX12_init_190 : decode cX12_init 190 = .ok (.putfield 38, 3) := by decide +kernel
theorem dX12_init_193 : decode cX12_init 193 = .ok (.aload_n 0, 1) := by decide +kernel
theorem dX12_init_194 : decode cX12_init 194 = .ok (.bipush 10, 2) := by decide +kernel
theorem dX12_init_196 : decode cX12_init 196 = .ok (.newarray .int, 2) := by decide +kernel
theorem dX12_init_198 : decode cX12_init 198 = .ok (.putfield 41, 3) := by decide +kernel
theorem dX12_init_201 : decode cX12_init 201 = .ok (.aload_n 0, 1) := by decide +kernel
theorem dX12_init_202 : decode cX12_init 202 = .ok (.bipush 10, 2) := by decide +kernel
theorem dX12_init_204 : decode cX12_init 204 = .ok (.putfield 44, 3) := by decide +kernel
theorem dX12_init_207 : decode cX12_init 207 = .ok (.aload_n 0, 1) := by decide +kernel
theorem dX12_init_208 : decode cX12_init 208 = .ok (.bipush 10, 2) := by decide +kernel
theorem dX12_init_210 : decode cX12_init 210 = .ok (.putfield 47, 3) := by decide +kernel
theorem dX12_init_213 : decode cX12_init 213 = .ok (.iconst 0, 1) := by decide +kernel
theorem dX12_init_214 : decode cX12_init 214 = .ok (.istore_n 1, 1) := by decide +kernel
theorem dX12_init_215 : decode cX12_init 215 = .ok (.iload_n 1, 1) := by decide +kernel
theorem dX12_init_216 : decode cX12_init 216 = .ok (.bipush 100, 2) := by decide +kernel
theorem dX12_init_218 : decode cX12_init 218 = .ok (.if_icmp .ge 41, 3) := by decide +kernel
theorem dX12_init_221 : decode cX12_init 221 = .ok (.aload_n 0, 1) := by decide +kernel
theorem dX12_init_222 : decode cX12_init 222 = .ok (.getfield 7, 3) := by decide +kernel
theorem dX12_init_225 : decode cX12_init 225 = .ok (.iload_n 1, 1) := by decide +kernel
theorem dX12_init_226 : decode cX12_init 226 = .ok (.bipush 10, 2) := by decide +kernel
theorem dX12_init_228 : decode cX12_init 228 = .ok (.irem, 1) := by decide +kernel
theorem dX12_init_229 : decode cX12_init 229 = .ok (.iload_n 1, 1) := by decide +kernel
theorem dX12_init_230 : decode cX12_init 230 = .ok (.bipush 10, 2) := by decide +kernel
theorem dX12_init_232 : decode cX12_init 232 = .ok (.idiv, 1) := by decide +kernel
theorem dX12_init_233 : decode cX12_init 233 = .ok (.invokestatic 50, 3) := by decide +kernel
theorem dX12_init_236 : decode cX12_init 236 = .ok (.aload_n 0, 1) := by decide +kernel
theorem dX12_init_237 : decode cX12_init 237 = .ok (.getfield 29, 3) := by decide +kernel
theorem dX12_init_240 : decode cX12_init 240 = .ok (.iload_n 1, 1) := by decide +kernel
theorem dX12_init_241 : decode cX12_init 241 = .ok (.bipush 10, 2) := by decide +kernel
theorem dX12_init_243 : decode cX12_init 243 = .ok (.idiv, 1) := by decide +kernel
theorem dX12_init_244 : decode cX12_init 244 = .ok (.iaload, 1) := by decide +kernel
theorem dX12_init_245 : decode cX12_init 245 = .ok (.iload_n 1, 1) := by decide +kernel
theorem dX12_init_246 : decode cX12_init 246 = .ok (.bipush 10, 2) := by decide +kernel
theorem dX12_init_248 : decode cX12_init 248 = .ok (.irem, 1) := by decide +kernel
theorem dX12_init_249 : decode cX12_init 249 = .ok (.ishr, 1) := by decide +kernel
theorem dX12_init_250 : decode cX12_init 250 = .ok (.iconst 1, 1) := by decide +kernel
theorem dX12_init_251 : decode cX12_init 251 = .ok (.iand, 1) := by decide +kernel
theorem dX12_init_252 : decode cX12_init 252 = .ok (.iastore, 1) := by decide +kernel
theorem dX12_init_253 : decode cX12_init 253 = .ok (.iinc 1 1, 3) := by decide +kernel
theorem dX12_init_256 : decode cX12_init 256 = .ok (.goto (-41), 3) := by decide +kernel
theorem dX12_init_259 : decode cX12_init 259 = .ok (.iconst 0, 1) := by decide +kernel
theorem dX12_init_260 : decode cX12_init 260 = .ok (.istore_n 1, 1) := by decide +kernel
theorem dX12_init_261 : decode cX12_init 261 = .ok (.iload_n 1, 1) := by decide +kernel
theorem dX12_init_262 : decode cX12_init 262 = .ok (.bipush 6, 2) := by decide +kernel
theorem dX12_init_264 : decode cX12_init 264 = .ok (.if_icmp .ge 34, 3) := by decide +kernel
theorem dX12_init_267 : decode cX12_init 267 = .ok (.aload_n 0, 1) := by decide +kernel
theorem dX12_init_268 : decode cX12_init 268 = .ok (.getfield 7, 3) := by decide +kernel
theorem dX12_init_271 : decode cX12_init 271 = .ok (.aload_n 0, 1) := by decide +kernel
theorem dX12_init_272 : decode cX12_init 272 = .ok (.getfield 32, 3) := by decide +kernel
theorem dX12_init_275 : decode cX12_init 275 = .ok (.iconst 2, 1) := by decide +kernel
theorem dX12_init_276 : decode cX12_init 276 = .ok (.iload_n 1, 1) := by decide +kernel
theorem dX12_init_277 : decode cX12_init 277 = .ok (.imul, 1) := by decide +kernel
theorem dX12_init_278 : decode cX12_init 278 = .ok (.iaload, 1) := by decide +kernel
theorem dX12_init_279 : decode cX12_init 279 = .ok (.aload_n 0, 1) := by decide +kernel
theorem dX12_init_280 : decode cX12_init 280 = .ok (.getfield 32, 3) := by decide +kernel
theorem dX12_init_283 : decode cX12_init 283 = .ok (.iconst 2, 1) := by decide +kernel
theorem dX12_init_284 : decode cX12_init 284 = .ok (.iload_n 1, 1) := by decide +kernel
theorem dX12_init_285 : decode cX12_init 285 = .ok (.imul, 1) := by decide +kernel
theorem dX12_init_286 : decode cX12_init 286 = .ok (.iconst 1, 1) := by decide +kernel
theorem dX12_init_287 : decode cX12_init 287 = .ok (.iadd, 1) := by decide +kernel
theorem dX12_init_288 : decode cX12_init 288 = .ok (.iaload, 1) := by decide +kernel
theorem dX12_init_289 : decode cX12_init 289 = .ok (.invokestatic 54, 3) := by decide +kernel
theorem dX12_init_292 : decode cX12_init 292 = .ok (.iinc 1 1, 3) := by decide +kernel
theorem dX12_init_295 : decode cX12_init 295 = .ok (.goto (-34), 3) := by decide +kernel
theorem dX12_init_298 : decode cX12_init 298 = .ok (.aload_n 0, 1) := by decide +kernel
theorem dX12_init_299 : decode cX12_init 299 = .ok (.getfield 7, 3) := by decide +kernel
theorem dX12_init_302 : decode cX12_init 302 = .ok (.sipush 142, 3) := by decide +kernel
theorem dX12_init_305 : decode cX12_init 305 = .ok (.iconst 1, 1) := by decide +kernel
theorem dX12_init_306 : decode cX12_init 306 = .ok (.iastore, 1) := by decide +kernel
theorem dX12_init_307 : decode cX12_init 307 = .ok (.aload_n 0, 1) := by decide +kernel
theorem dX12_init_308 : decode cX12_init 308 = .ok (.getfield 7, 3) := by decide +kernel
theorem dX12_init_311 : decode cX12_init 311 = .ok (.sipush 143, 3) := by decide +kernel
theorem dX12_init_314 : decode cX12_init 314 = .ok (.bipush 20, 2) := by decide +kernel
theorem dX12_init_316 : decode cX12_init 316 = .ok (.iastore, 1) := by decide +kernel
theorem dX12_init_317 : decode cX12_init 317 = .ok (.return_, 1) := by decide +kernel
theorem dX12_write_0 : decode cX12_write 0 = .ok (.iload_n 1, 1) := by decide +kernel
theorem dX12_write_1 : decode cX12_write 1 = .ok (.bipush 32, 2) := by decide +kernel
theorem dX12_write_3 : decode cX12_write 3 = .ok (.bipush 126, 2) := by decide +kernel
theorem dX12_write_5 : decode cX12_write 5 = .ok (.invokestatic 58, 3) := by decide +kernel
theorem dX12_write_8 : decode cX12_write 8 = .ok (.ifCond .ne 5, 3) := by decide +kernel
theorem dX12_write_11 : decode cX12_write 11 = .ok (.iconst (-1), 1) := by decide +kernel
theorem dX12_write_12 : decode cX12_write 12 = .ok (.ireturn, 1) := by decide +kernel
theorem dX12_write_13 : decode cX12_write 13 = .ok (.aload_n 0, 1) := by decide +kernel
theorem dX12_write_14 : decode cX12_write 14 = .ok (.getfield 62, 3) := by decide +kernel
theorem dX12_write_17 : decode cX12_write 17 = .ok (.sipush 200, 3) := by decide +kernel
theorem dX12_write_20 : decode cX12_write 20 = .ok (.if_icmp .ne 6, 3) := by decide +kernel
theorem dX12_write_23 : decode cX12_write 23 = .ok (.bipush (-3), 2) := by decide +kernel
theorem dX12_write_25 : decode cX12_write 25 = .ok (.ireturn, 1) := by decide +kernel
theorem dX12_write_26 : decode cX12_write 26 = .ok (.aload_n 0, 1) := by decide +kernel
theorem dX12_write_27 : decode cX12_write 27 = .ok (.getfield 23, 3) := by decide +kernel
theorem dX12_write_30 : decode cX12_write 30 = .ok (.aload_n 0, 1) := by decide +kernel
theorem dX12_write_31 : decode cX12_write 31 = .ok (.getfield 62, 3) := by decide +kernel
theorem dX12_write_34 : decode cX12_write 34 = .ok (.iload_n 1, 1) := by decide +kernel
theorem dX12_write_35 : decode cX12_write 35 = .ok (.iastore, 1) := by decide +kernel
theorem dX12_write_36 : decode cX12_write 36 = .ok (.aload_n 0, 1) := by decide +kernel
theorem dX12_write_37 : decode cX12_write 37 = .ok (.dup, 1) := by decide +kernel
theorem dX12_write_38 : decode cX12_write 38 = .ok (.getfield 62, 3) := by decide +kernel
theorem dX12_write_41 : decode cX12_write 41 = .ok (.iconst 1, 1) := by decide +kernel
theorem dX12_write_42 : decode cX12_write 42 = .ok (.iadd, 1) := by decide +kernel
theorem dX12_write_43 : decode cX12_write 43 = .ok (.putfield 62, 3) := by decide +kernel
theorem dX12_write_46 : decode cX12_write 46 = .ok (.aload_n 0, 1) := by decide +kernel
theorem dX12_write_47 : decode cX12_write 47 = .ok (.getfield 62, 3) := by decide +kernel
theorem dX12_write_50 : decode cX12_write 50 = .ok (.ireturn, 1) := by decide +kernel
theorem dX12_wipe_0 : decode cX12_wipe 0 = .ok (.aload_n 0, 1) := by decide +kernel
theorem dX12_wipe_1 : decode cX12_wipe 1 = .ok (.getfield 62, 3) := by decide +kernel
theorem dX12_wipe_4 : decode cX12_wipe 4 = .ok (.istore_n 1, 1) := by decide +kernel
theorem dX12_wipe_5 : decode cX12_wipe 5 = .ok (.aload_n 0, 1) := by decide +kernel
theorem dX12_wipe_6 : decode cX12_wipe 6 = .ok (.iconst 0, 1) := by decide +kernel
theorem dX12_wipe_7 : decode cX12_wipe 7 = .ok (.putfield 62, 3) := by decide +kernel
theorem dX12_wipe_10 : decode cX12_wipe 10 = .ok (.iload_n 1, 1) := by decide +kernel
theorem dX12_wipe_11 : decode cX12_wipe 11 = .ok (.ireturn, 1) := by decide +kernel
theorem dX12_letter_0 : decode cX12_letter 0 = .ok (.iload_n 1, 1) := by decide +kernel
theorem dX12_letter_1 : decode cX12_letter 1 = .ok (.aload_n 0, 1) := by decide +kernel
theorem dX12_letter_2 : decode cX12_letter 2 = .ok (.getfield 62, 3) := by decide +kernel
theorem dX12_letter_5 : decode cX12_letter 5 = .ok (.if_icmp .ge 12, 3) := by decide +kernel
theorem dX12_letter_8 : decode cX12_letter 8 = .ok (.aload_n 0, 1) := by decide +kernel
theorem dX12_letter_9 : decode cX12_letter 9 = .ok (.getfield 23, 3) := by decide +kernel
theorem dX12_letter_12 : decode cX12_letter 12 = .ok (.iload_n 1, 1) := by decide +kernel
theorem dX12_letter_13 : decode cX12_letter 13 = .ok (.iaload, 1) := by decide +kernel
theorem dX12_letter_14 : decode cX12_letter 14 = .ok (.goto 4, 3) := by decide +kernel
theorem dX12_letter_17 : decode cX12_letter 17 = .ok (.iconst 0, 1) := by decide +kernel
theorem dX12_letter_18 : decode cX12_letter 18 = .ok (.ireturn, 1) := by decide +kernel
theorem dX12_signOf_0 : decode cX12_signOf 0 = .ok (.iload_n 0, 1) := by decide +kernel
theorem dX12_signOf_1 : decode cX12_signOf 1 = .ok (.bipush 48, 2) := by decide +kernel
theorem dX12_signOf_3 : decode cX12_signOf 3 = .ok (.bipush 57, 2) := by decide +kernel
theorem dX12_signOf_5 : decode cX12_signOf 5 = .ok (.invokestatic 58, 3) := by decide +kernel
theorem dX12_signOf_8 : decode cX12_signOf 8 = .ok (.ifCond .eq 10, 3) := by decide +kernel
theorem dX12_signOf_11 : decode cX12_signOf 11 = .ok (.iload_n 0, 1) := by decide +kernel
theorem dX12_signOf_12 : decode cX12_signOf 12 = .ok (.bipush 48, 2) := by decide +kernel
theorem dX12_signOf_14 : decode cX12_signOf 14 = .ok (.isub, 1) := by decide +kernel
theorem dX12_signOf_15 : decode cX12_signOf 15 = .ok (.goto 27, 3) := by decide +kernel
theorem dX12_signOf_18 : decode cX12_signOf 18 = .ok (.iload_n 0, 1) := by decide +kernel
theorem dX12_signOf_19 : decode cX12_signOf 19 = .ok (.bipush 97, 2) := by decide +kernel
theorem dX12_signOf_21 : decode cX12_signOf 21 = .ok (.if_icmp .ne 8, 3) := by decide +kernel
theorem dX12_signOf_24 : decode cX12_signOf 24 = .ok (.bipush 10, 2) := by decide +kernel
theorem dX12_signOf_26 : decode cX12_signOf 26 = .ok (.goto 16, 3) := by decide +kernel
theorem dX12_signOf_29 : decode cX12_signOf 29 = .ok (.iload_n 0, 1) := by decide +kernel
theorem dX12_signOf_30 : decode cX12_signOf 30 = .ok (.bipush 98, 2) := by decide +kernel
theorem dX12_signOf_32 : decode cX12_signOf 32 = .ok (.if_icmp .ne 8, 3) := by decide +kernel
theorem dX12_signOf_35 : decode cX12_signOf 35 = .ok (.bipush 11, 2) := by decide +kernel
theorem dX12_signOf_37 : decode cX12_signOf 37 = .ok (.goto 5, 3) := by decide +kernel
theorem dX12_signOf_40 : decode cX12_signOf 40 = .ok (.bipush (-4), 2) := by decide +kernel
theorem dX12_signOf_42 : decode cX12_signOf 42 = .ok (.ireturn, 1) := by decide +kernel
theorem dX12_readsGrid_0 : decode cX12_readsGrid 0 = .ok (.aload_n 0, 1) := by decide +kernel
theorem dX12_readsGrid_1 : decode cX12_readsGrid 1 = .ok (.aload_n 0, 1) := by decide +kernel
theorem dX12_readsGrid_2 : decode cX12_readsGrid 2 = .ok (.iload_n 1, 1) := by decide +kernel
theorem dX12_readsGrid_3 : decode cX12_readsGrid 3 = .ok (.iconst 1, 1) := by decide +kernel
theorem dX12_readsGrid_4 : decode cX12_readsGrid 4 = .ok (.iadd, 1) := by decide +kernel
theorem dX12_readsGrid_5 : decode cX12_readsGrid 5 = .ok (.invokevirtual 65, 3) := by decide +kernel
theorem dX12_readsGrid_8 : decode cX12_readsGrid 8 = .ok (.invokestatic 69, 3) := by decide +kernel
theorem dX12_readsGrid_11 : decode cX12_readsGrid 11 = .ok (.putfield 72, 3) := by decide +kernel
theorem dX12_readsGrid_14 : decode cX12_readsGrid 14 = .ok (.aload_n 0, 1) := by decide +kernel
theorem dX12_readsGrid_15 : decode cX12_readsGrid 15 = .ok (.aload_n 0, 1) := by decide +kernel
theorem dX12_readsGrid_16 : decode cX12_readsGrid 16 = .ok (.iload_n 1, 1) := by decide +kernel
theorem dX12_readsGrid_17 : decode cX12_readsGrid 17 = .ok (.iconst 2, 1) := by decide +kernel
theorem dX12_readsGrid_18 : decode cX12_readsGrid 18 = .ok (.iadd, 1) := by decide +kernel
theorem dX12_readsGrid_19 : decode cX12_readsGrid 19 = .ok (.invokevirtual 65, 3) := by decide +kernel
theorem dX12_readsGrid_22 : decode cX12_readsGrid 22 = .ok (.invokestatic 69, 3) := by decide +kernel
theorem dX12_readsGrid_25 : decode cX12_readsGrid 25 = .ok (.putfield 75, 3) := by decide +kernel
theorem dX12_readsGrid_28 : decode cX12_readsGrid 28 = .ok (.iload_n 1, 1) := by decide +kernel
theorem dX12_readsGrid_29 : decode cX12_readsGrid 29 = .ok (.ifCond .ne 33, 3) := by decide +kernel
theorem dX12_readsGrid_32 : decode cX12_readsGrid 32 = .ok (.aload_n 0, 1) := by decide +kernel
theorem dX12_readsGrid_33 : decode cX12_readsGrid 33 = .ok (.getfield 72, 3) := by decide +kernel
theorem dX12_readsGrid_36 : decode cX12_readsGrid 36 = .ok (.iconst 4, 1) := by decide +kernel
theorem dX12_readsGrid_37 : decode cX12_readsGrid 37 = .ok (.bipush 11, 2) := by decide +kernel
theorem dX12_readsGrid_39 : decode cX12_readsGrid 39 = .ok (.invokestatic 58, 3) := by decide +kernel
theorem dX12_readsGrid_42 : decode cX12_readsGrid 42 = .ok (.ifCond .eq 20, 3) := by decide +kernel
theorem dX12_readsGrid_45 : decode cX12_readsGrid 45 = .ok (.aload_n 0, 1) := by decide +kernel
theorem dX12_readsGrid_46 : decode cX12_readsGrid 46 = .ok (.getfield 75, 3) := by decide +kernel
theorem dX12_readsGrid_49 : decode cX12_readsGrid 49 = .ok (.iconst 4, 1) := by decide +kernel
theorem dX12_readsGrid_50 : decode cX12_readsGrid 50 = .ok (.bipush 11, 2) := by decide +kernel
theorem dX12_readsGrid_52 : decode cX12_readsGrid 52 = .ok (.invokestatic 58, 3) := by decide +kernel
theorem dX12_readsGrid_55 : decode cX12_readsGrid 55 = .ok (.ifCond .eq 7, 3) := by decide +kernel
theorem dX12_readsGrid_58 : decode cX12_readsGrid 58 = .ok (.iconst 1, 1) := by decide +kernel
theorem dX12_readsGrid_59 : decode cX12_readsGrid 59 = .ok (.goto 4, 3) := by decide +kernel
theorem dX12_readsGrid_62 : decode cX12_readsGrid 62 = .ok (.iconst 0, 1) := by decide +kernel
theorem dX12_readsGrid_63 : decode cX12_readsGrid 63 = .ok (.ireturn, 1) := by decide +kernel
theorem dX12_readsRow_0 : decode cX12_readsRow 0 = .ok (.aload_n 0, 1) := by decide +kernel
theorem dX12_readsRow_1 : decode cX12_readsRow 1 = .ok (.getfield 78, 3) := by decide +kernel
theorem dX12_readsRow_4 : decode cX12_readsRow 4 = .ok (.aload_n 0, 1) := by decide +kernel
theorem dX12_readsRow_5 : decode cX12_readsRow 5 = .ok (.getfield 75, 3) := by decide +kernel
theorem dX12_readsRow_8 : decode cX12_readsRow 8 = .ok (.if_icmp .ne 5, 3) := by decide +kernel
theorem dX12_readsRow_11 : decode cX12_readsRow 11 = .ok (.iconst 0, 1) := by decide +kernel
theorem dX12_readsRow_12 : decode cX12_readsRow 12 = .ok (.ireturn, 1) := by decide +kernel
theorem dX12_readsRow_13 : decode cX12_readsRow 13 = .ok (.iconst 0, 1) := by decide +kernel
theorem dX12_readsRow_14 : decode cX12_readsRow 14 = .ok (.istore_n 2, 1) := by decide +kernel
theorem dX12_readsRow_15 : decode cX12_readsRow 15 = .ok (.iload_n 2, 1) := by decide +kernel
theorem dX12_readsRow_16 : decode cX12_readsRow 16 = .ok (.aload_n 0, 1) := by decide +kernel
theorem dX12_readsRow_17 : decode cX12_readsRow 17 = .ok (.getfield 72, 3) := by decide +kernel
theorem dX12_readsRow_20 : decode cX12_readsRow 20 = .ok (.if_icmp .ge 58, 3) := by decide +kernel
theorem dX12_readsRow_23 : decode cX12_readsRow 23 = .ok (.aload_n 0, 1) := by decide +kernel
theorem dX12_readsRow_24 : decode cX12_readsRow 24 = .ok (.iload_n 1, 1) := by decide +kernel
theorem dX12_readsRow_25 : decode cX12_readsRow 25 = .ok (.iconst 1, 1) := by decide +kernel
theorem dX12_readsRow_26 : decode cX12_readsRow 26 = .ok (.iadd, 1) := by decide +kernel
theorem dX12_readsRow_27 : decode cX12_readsRow 27 = .ok (.iload_n 2, 1) := by decide +kernel
theorem dX12_readsRow_28 : decode cX12_readsRow 28 = .ok (.iadd, 1) := by decide +kernel
theorem dX12_readsRow_29 : decode cX12_readsRow 29 = .ok (.invokevirtual 65, 3) := by decide +kernel
theorem dX12_readsRow_32 : decode cX12_readsRow 32 = .ok (.istore_n 3, 1) := by decide +kernel
theorem dX12_readsRow_33 : decode cX12_readsRow 33 = .ok (.iload_n 3, 1) := by decide +kernel
theorem dX12_readsRow_34 : decode cX12_readsRow 34 = .ok (.bipush 35, 2) := by decide +kernel
theorem dX12_readsRow_36 : decode cX12_readsRow 36 = .ok (.if_icmp .eq 11, 3) := by decide +kernel
theorem dX12_readsRow_39 : decode cX12_readsRow 39 = .ok (.iload_n 3, 1) := by decide +kernel
theorem dX12_readsRow_40 : decode cX12_readsRow 40 = .ok (.bipush 46, 2) := by decide +kernel
theorem dX12_readsRow_42 : decode cX12_readsRow 42 = .ok (.if_icmp .eq 5, 3) := by decide +kernel
theorem dX12_readsRow_45 : decode cX12_readsRow 45 = .ok (.iconst 0, 1) := by decide +kernel
theorem dX12_readsRow_46 : decode cX12_readsRow 46 = .ok (.ireturn, 1) := by decide +kernel
theorem dX12_readsRow_47 : decode cX12_readsRow 47 = .ok (.aload_n 0, 1) := by decide +kernel
theorem dX12_readsRow_48 : decode cX12_readsRow 48 = .ok (.getfield 26, 3) := by decide +kernel
theorem dX12_readsRow_51 : decode cX12_readsRow 51 = .ok (.bipush 11, 2) := by decide +kernel
theorem dX12_readsRow_53 : decode cX12_readsRow 53 = .ok (.aload_n 0, 1) := by decide +kernel
theorem dX12_readsRow_54 : decode cX12_readsRow 54 = .ok (.getfield 78, 3) := by decide +kernel
theorem dX12_readsRow_57 : decode cX12_readsRow 57 = .ok (.imul, 1) := by decide +kernel
theorem dX12_readsRow_58 : decode cX12_readsRow 58 = .ok (.iload_n 2, 1) := by decide +kernel
theorem dX12_readsRow_59 : decode cX12_readsRow 59 = .ok (.iadd, 1) := by decide +kernel
theorem dX12_readsRow_60 : decode cX12_readsRow 60 = .ok (.iload_n 3, 1) := by decide +kernel
theorem dX12_readsRow_61 : decode cX12_readsRow 61 = .ok (.bipush 35, 2) := by decide +kernel
theorem dX12_readsRow_63 : decode cX12_readsRow 63 = .ok (.if_icmp .ne 7, 3) := by decide +kernel
theorem dX12_readsRow_66 : decode cX12_readsRow 66 = .ok (.iconst 1, 1) := by decide +kernel
theorem dX12_readsRow_67 : decode cX12_readsRow 67 = .ok (.goto 4, 3) := by decide +kernel
theorem dX12_readsRow_70 : decode cX12_readsRow 70 = .ok (.iconst 0, 1) := by decide +kernel
theorem dX12_readsRow_71 : decode cX12_readsRow 71 = .ok (.iastore, 1) := by decide +kernel
theorem dX12_readsRow_72 : decode cX12_readsRow 72 = .ok (.iinc 2 1, 3) := by decide +kernel
theorem dX12_readsRow_75 : decode cX12_readsRow 75 = .ok (.goto (-60), 3) := by decide +kernel
theorem dX12_readsRow_78 : decode cX12_readsRow 78 = .ok (.aload_n 0, 1) := by decide +kernel
theorem dX12_readsRow_79 : decode cX12_readsRow 79 = .ok (.dup, 1) := by decide +kernel
theorem dX12_readsRow_80 : decode cX12_readsRow 80 = .ok (.getfield 78, 3) := by decide +kernel
theorem dX12_readsRow_83 : decode cX12_readsRow 83 = .ok (.iconst 1, 1) := by decide +kernel
theorem dX12_readsRow_84 : decode cX12_readsRow 84 = .ok (.iadd, 1) := by decide +kernel
theorem dX12_readsRow_85 : decode cX12_readsRow 85 = .ok (.putfield 78, 3) := by decide +kernel
theorem dX12_readsRow_88 : decode cX12_readsRow 88 = .ok (.iconst 1, 1) := by decide +kernel
theorem dX12_readsRow_89 : decode cX12_readsRow 89 = .ok (.ireturn, 1) := by decide +kernel
theorem dX12_readsDot_0 : decode cX12_readsDot 0 = .ok (.aload_n 0, 1) := by decide +kernel
theorem dX12_readsDot_1 : decode cX12_readsDot 1 = .ok (.iload_n 1, 1) := by decide +kernel
theorem dX12_readsDot_2 : decode cX12_readsDot 2 = .ok (.iconst 1, 1) := by decide +kernel
theorem dX12_readsDot_3 : decode cX12_readsDot 3 = .ok (.iadd, 1) := by decide +kernel
theorem dX12_readsDot_4 : decode cX12_readsDot 4 = .ok (.invokevirtual 65, 3) := by decide +kernel
theorem dX12_readsDot_7 : decode cX12_readsDot 7 = .ok (.bipush 102, 2) := by decide +kernel
theorem dX12_readsDot_9 : decode cX12_readsDot 9 = .ok (.isub, 1) := by decide +kernel
theorem dX12_readsDot_10 : decode cX12_readsDot 10 = .ok (.istore_n 2, 1) := by decide +kernel
theorem dX12_readsDot_11 : decode cX12_readsDot 11 = .ok (.aload_n 0, 1) := by decide +kernel
theorem dX12_readsDot_12 : decode cX12_readsDot 12 = .ok (.iload_n 1, 1) := by decide +kernel
theorem dX12_readsDot_13 : decode cX12_readsDot 13 = .ok (.iconst 2, 1) := by decide +kernel
theorem dX12_readsDot_14 : decode cX12_readsDot 14 = .ok (.iadd, 1) := by decide +kernel
theorem dX12_readsDot_15 : decode cX12_readsDot 15 = .ok (.invokevirtual 65, 3) := by decide +kernel
theorem dX12_readsDot_18 : decode cX12_readsDot 18 = .ok (.bipush 102, 2) := by decide +kernel
theorem dX12_readsDot_20 : decode cX12_readsDot 20 = .ok (.isub, 1) := by decide +kernel
theorem dX12_readsDot_21 : decode cX12_readsDot 21 = .ok (.istore_n 3, 1) := by decide +kernel
theorem dX12_readsDot_22 : decode cX12_readsDot 22 = .ok (.iload_n 2, 1) := by decide +kernel
theorem dX12_readsDot_23 : decode cX12_readsDot 23 = .ok (.bipush (-5), 2) := by decide +kernel
theorem dX12_readsDot_25 : decode cX12_readsDot 25 = .ok (.iconst 5, 1) := by decide +kernel
theorem dX12_readsDot_26 : decode cX12_readsDot 26 = .ok (.invokestatic 58, 3) := by decide +kernel
theorem dX12_readsDot_29 : decode cX12_readsDot 29 = .ok (.ifCond .eq 40, 3) := by decide +kernel
theorem dX12_readsDot_32 : decode cX12_readsDot 32 = .ok (.iload_n 3, 1) := by decide +kernel
theorem dX12_readsDot_33 : decode cX12_readsDot 33 = .ok (.bipush (-5), 2) := by decide +kernel
theorem dX12_readsDot_35 : decode cX12_readsDot 35 = .ok (.iconst 5, 1) := by decide +kernel
theorem dX12_readsDot_36 : decode cX12_readsDot 36 = .ok (.invokestatic 58, 3) := by decide +kernel
theorem dX12_readsDot_39 : decode cX12_readsDot 39 = .ok (.ifCond .eq 30, 3) := by decide +kernel
theorem dX12_readsDot_42 : decode cX12_readsDot 42 = .ok (.aload_n 0, 1) := by decide +kernel
theorem dX12_readsDot_43 : decode cX12_readsDot 43 = .ok (.getfield 26, 3) := by decide +kernel
theorem dX12_readsDot_46 : decode cX12_readsDot 46 = .ok (.sipush 141, 3) := by decide +kernel
theorem dX12_readsDot_49 : decode cX12_readsDot 49 = .ok (.iaload, 1) := by decide +kernel
theorem dX12_readsDot_50 : decode cX12_readsDot 50 = .ok (.bipush 10, 2) := by decide +kernel
theorem dX12_readsDot_52 : decode cX12_readsDot 52 = .ok (.if_icmp .eq 17, 3) := by decide +kernel
theorem dX12_readsDot_55 : decode cX12_readsDot 55 = .ok (.aload_n 0, 1) := by decide +kernel
theorem dX12_readsDot_56 : decode cX12_readsDot 56 = .ok (.getfield 26, 3) := by decide +kernel
theorem dX12_readsDot_59 : decode cX12_readsDot 59 = .ok (.iload_n 2, 1) := by decide +kernel
theorem dX12_readsDot_60 : decode cX12_readsDot 60 = .ok (.iload_n 3, 1) := by decide +kernel
theorem dX12_readsDot_61 : decode cX12_readsDot 61 = .ok (.invokestatic 81, 3) := by decide +kernel
theorem dX12_readsDot_64 : decode cX12_readsDot 64 = .ok (.bipush (-4), 2) := by decide +kernel
theorem dX12_readsDot_66 : decode cX12_readsDot 66 = .ok (.if_icmp .eq 5, 3) := by decide +kernel
theorem dX12_readsDot_69 : decode cX12_readsDot 69 = .ok (.iconst 0, 1) := by decide +kernel
theorem dX12_readsDot_70 : decode cX12_readsDot 70 = .ok (.ireturn, 1) := by decide +kernel
theorem dX12_readsDot_71 : decode cX12_readsDot 71 = .ok (.aload_n 0, 1) := by decide +kernel
theorem dX12_readsDot_72 : decode cX12_readsDot 72 = .ok (.getfield 26, 3) := by decide +kernel
theorem dX12_readsDot_75 : decode cX12_readsDot 75 = .ok (.iload_n 2, 1) := by decide +kernel
theorem dX12_readsDot_76 : decode cX12_readsDot 76 = .ok (.iload_n 3, 1) := by decide +kernel
theorem dX12_readsDot_77 : decode cX12_readsDot 77 = .ok (.invokestatic 54, 3) := by decide +kernel
theorem dX12_readsDot_80 : decode cX12_readsDot 80 = .ok (.iconst 1, 1) := by decide +kernel
theorem dX12_readsDot_81 : decode cX12_readsDot 81 = .ok (.ireturn, 1) := by decide +kernel
theorem dX12_readsMeasure_0 : decode cX12_readsMeasure 0 = .ok (.aload_n 0, 1) := by decide +kernel
theorem dX12_readsMeasure_1 : decode cX12_readsMeasure 1 = .ok (.iload_n 1, 1) := by decide +kernel
theorem dX12_readsMeasure_2 : decode cX12_readsMeasure 2 = .ok (.iconst 1, 1) := by decide +kernel
theorem dX12_readsMeasure_3 : decode cX12_readsMeasure 3 = .ok (.iadd, 1) := by decide +kernel
theorem dX12_readsMeasure_4 : decode cX12_readsMeasure 4 = .ok (.invokevirtual 65, 3) := by decide +kernel
theorem dX12_readsMeasure_7 : decode cX12_readsMeasure 7 = .ok (.bipush 48, 2) := by decide +kernel
theorem dX12_readsMeasure_9 : decode cX12_readsMeasure 9 = .ok (.isub, 1) := by decide +kernel
theorem dX12_readsMeasure_10 : decode cX12_readsMeasure 10 = .ok (.istore_n 2, 1) := by decide +kernel
theorem dX12_readsMeasure_11 : decode cX12_readsMeasure 11 = .ok (.aload_n 0, 1) := by decide +kernel
theorem dX12_readsMeasure_12 : decode cX12_readsMeasure 12 = .ok (.iload_n 1, 1) := by decide +kernel
theorem dX12_readsMeasure_13 : decode cX12_readsMeasure 13 = .ok (.iconst 2, 1) := by decide +kernel
theorem dX12_readsMeasure_14 : decode cX12_readsMeasure 14 = .ok (.iadd, 1) := by decide +kernel
theorem dX12_readsMeasure_15 : decode cX12_readsMeasure 15 = .ok (.invokevirtual 65, 3) := by decide +kernel
theorem dX12_readsMeasure_18 : decode cX12_readsMeasure 18 = .ok (.bipush 48, 2) := by decide +kernel
theorem dX12_readsMeasure_20 : decode cX12_readsMeasure 20 = .ok (.isub, 1) := by decide +kernel
theorem dX12_readsMeasure_21 : decode cX12_readsMeasure 21 = .ok (.istore_n 3, 1) := by decide +kernel
theorem dX12_readsMeasure_22 : decode cX12_readsMeasure 22 = .ok (.aload_n 0, 1) := by decide +kernel
theorem dX12_readsMeasure_23 : decode cX12_readsMeasure 23 = .ok (.iload_n 1, 1) := by decide +kernel
theorem dX12_readsMeasure_24 : decode cX12_readsMeasure 24 = .ok (.iconst 3, 1) := by decide +kernel
theorem dX12_readsMeasure_25 : decode cX12_readsMeasure 25 = .ok (.iadd, 1) := by decide +kernel
theorem dX12_readsMeasure_26 : decode cX12_readsMeasure 26 = .ok (.invokevirtual 65, 3) := by decide +kernel
theorem dX12_readsMeasure_29 : decode cX12_readsMeasure 29 = .ok (.bipush 48, 2) := by decide +kernel
theorem dX12_readsMeasure_31 : decode cX12_readsMeasure 31 = .ok (.isub, 1) := by decide +kernel
theorem dX12_readsMeasure_32 : decode cX12_readsMeasure 32 = .ok (.istore 4, 2) := by decide +kernel
theorem dX12_readsMeasure_34 : decode cX12_readsMeasure 34 = .ok (.iload_n 2, 1) := by decide +kernel
theorem dX12_readsMeasure_35 : decode cX12_readsMeasure 35 = .ok (.iconst 0, 1) := by decide +kernel
theorem dX12_readsMeasure_36 : decode cX12_readsMeasure 36 = .ok (.iconst 2, 1) := by decide +kernel
theorem dX12_readsMeasure_37 : decode cX12_readsMeasure 37 = .ok (.invokestatic 58, 3) := by decide +kernel
theorem dX12_readsMeasure_40 : decode cX12_readsMeasure 40 = .ok (.ifCond .eq 35, 3) := by decide +kernel
theorem dX12_readsMeasure_43 : decode cX12_readsMeasure 43 = .ok (.iload_n 3, 1) := by decide +kernel
theorem dX12_readsMeasure_44 : decode cX12_readsMeasure 44 = .ok (.iconst 0, 1) := by decide +kernel
theorem dX12_readsMeasure_45 : decode cX12_readsMeasure 45 = .ok (.bipush 9, 2) := by decide +kernel
theorem dX12_readsMeasure_47 : decode cX12_readsMeasure 47 = .ok (.invokestatic 58, 3) := by decide +kernel
theorem dX12_readsMeasure_50 : decode cX12_readsMeasure 50 = .ok (.ifCond .eq 25, 3) := by decide +kernel
theorem dX12_readsMeasure_53 : decode cX12_readsMeasure 53 = .ok (.iload 4, 2) := by decide +kernel
theorem dX12_readsMeasure_55 : decode cX12_readsMeasure 55 = .ok (.iconst 0, 1) := by decide +kernel
theorem dX12_readsMeasure_56 : decode cX12_readsMeasure 56 = .ok (.bipush 9, 2) := by decide +kernel
theorem dX12_readsMeasure_58 : decode cX12_readsMeasure 58 = .ok (.invokestatic 58, 3) := by decide +kernel
theorem dX12_readsMeasure_61 : decode cX12_readsMeasure 61 = .ok (.ifCond .eq 14, 3) := by decide +kernel
theorem dX12_readsMeasure_64 : decode cX12_readsMeasure 64 = .ok (.iload_n 3, 1) := by decide +kernel
theorem dX12_readsMeasure_65 : decode cX12_readsMeasure 65 = .ok (.iload 4, 2) := by decide +kernel
theorem dX12_readsMeasure_67 : decode cX12_readsMeasure 67 = .ok (.iadd, 1) := by decide +kernel
theorem dX12_readsMeasure_68 : decode cX12_readsMeasure 68 = .ok (.ifCond .le 7, 3) := by decide +kernel
theorem dX12_readsMeasure_71 : decode cX12_readsMeasure 71 = .ok (.iconst 1, 1) := by decide +kernel
theorem dX12_readsMeasure_72 : decode cX12_readsMeasure 72 = .ok (.goto 4, 3) := by decide +kernel
theorem dX12_readsMeasure_75 : decode cX12_readsMeasure 75 = .ok (.iconst 0, 1) := by decide +kernel
theorem dX12_readsMeasure_76 : decode cX12_readsMeasure 76 = .ok (.istore 5, 2) := by decide +kernel
theorem dX12_readsMeasure_78 : decode cX12_readsMeasure 78 = .ok (.aload_n 0, 1) := by decide +kernel
theorem dX12_readsMeasure_79 : decode cX12_readsMeasure 79 = .ok (.getfield 26, 3) := by decide +kernel
theorem dX12_readsMeasure_82 : decode cX12_readsMeasure 82 = .ok (.sipush 142, 3) := by decide +kernel
theorem dX12_readsMeasure_85 : decode cX12_readsMeasure 85 = .ok (.iload_n 2, 1) := by decide +kernel
theorem dX12_readsMeasure_86 : decode cX12_readsMeasure 86 = .ok (.iastore, 1) := by decide +kernel
theorem dX12_readsMeasure_87 : decode cX12_readsMeasure 87 = .ok (.aload_n 0, 1) := by decide +kernel
theorem dX12_readsMeasure_88 : decode cX12_readsMeasure 88 = .ok (.getfield 26, 3) := by decide +kernel
theorem dX12_readsMeasure_91 : decode cX12_readsMeasure 91 = .ok (.sipush 143, 3) := by decide +kernel
theorem dX12_readsMeasure_94 : decode cX12_readsMeasure 94 = .ok (.bipush 10, 2) := by decide +kernel
theorem dX12_readsMeasure_96 : decode cX12_readsMeasure 96 = .ok (.iload_n 3, 1) := by decide +kernel
theorem dX12_readsMeasure_97 : decode cX12_readsMeasure 97 = .ok (.imul, 1) := by decide +kernel
theorem dX12_readsMeasure_98 : decode cX12_readsMeasure 98 = .ok (.iload 4, 2) := by decide +kernel
theorem dX12_readsMeasure_100 : decode cX12_readsMeasure 100 = .ok (.iadd, 1) := by decide +kernel
theorem dX12_readsMeasure_101 : decode cX12_readsMeasure 101 = .ok (.iastore, 1) := by decide +kernel
theorem dX12_readsMeasure_102 : decode cX12_readsMeasure 102 = .ok (.iload 5, 2) := by decide +kernel
theorem dX12_readsMeasure_104 : decode cX12_readsMeasure 104 = .ok (.ireturn, 1) := by decide +kernel
theorem dX12_dotAt_0 : decode cX12_dotAt 0 = .ok (.iconst 0, 1) := by decide +kernel
theorem dX12_dotAt_1 : decode cX12_dotAt 1 = .ok (.istore_n 3, 1) := by decide +kernel
theorem dX12_dotAt_2 : decode cX12_dotAt 2 = .ok (.iload_n 3, 1) := by decide +kernel
theorem dX12_dotAt_3 : decode cX12_dotAt 3 = .ok (.aload_n 0, 1) := by decide +kernel
theorem dX12_dotAt_4 : decode cX12_dotAt 4 = .ok (.sipush 141, 3) := by decide +kernel
theorem dX12_dotAt_7 : decode cX12_dotAt 7 = .ok (.iaload, 1) := by decide +kernel
theorem dX12_dotAt_8 : decode cX12_dotAt 8 = .ok (.if_icmp .ge 32, 3) := by decide +kernel
theorem dX12_dotAt_11 : decode cX12_dotAt 11 = .ok (.aload_n 0, 1) := by decide +kernel
theorem dX12_dotAt_12 : decode cX12_dotAt 12 = .ok (.bipush 121, 2) := by decide +kernel
theorem dX12_dotAt_14 : decode cX12_dotAt 14 = .ok (.iload_n 3, 1) := by decide +kernel
theorem dX12_dotAt_15 : decode cX12_dotAt 15 = .ok (.iadd, 1) := by decide +kernel
theorem dX12_dotAt_16 : decode cX12_dotAt 16 = .ok (.iaload, 1) := by decide +kernel
theorem dX12_dotAt_17 : decode cX12_dotAt 17 = .ok (.iload_n 1, 1) := by decide +kernel
theorem dX12_dotAt_18 : decode cX12_dotAt 18 = .ok (.if_icmp .ne 16, 3) := by decide +kernel
theorem dX12_dotAt_21 : decode cX12_dotAt 21 = .ok (.aload_n 0, 1) := by decide +kernel
theorem dX12_dotAt_22 : decode cX12_dotAt 22 = .ok (.sipush 131, 3) := by decide +kernel
theorem dX12_dotAt_25 : decode cX12_dotAt 25 = .ok (.iload_n 3, 1) := by decide +kernel
theorem dX12_dotAt_26 : decode cX12_dotAt 26 = .ok (.iadd, 1) := by decide +kernel
theorem dX12_dotAt_27 : decode cX12_dotAt 27 = .ok (.iaload, 1) := by decide +kernel
theorem dX12_dotAt_28 : decode cX12_dotAt 28 = .ok (.iload_n 2, 1) := by decide +kernel
theorem dX12_dotAt_29 : decode cX12_dotAt 29 = .ok (.if_icmp .ne 5, 3) := by decide +kernel
theorem dX12_dotAt_32 : decode cX12_dotAt 32 = .ok (.iload_n 3, 1) := by decide +kernel
theorem dX12_dotAt_33 : decode cX12_dotAt 33 = .ok (.ireturn, 1) := by decide +kernel
theorem dX12_dotAt_34 : decode cX12_dotAt 34 = .ok (.iinc 3 1, 3) := by decide +kernel
theorem dX12_dotAt_37 : decode cX12_dotAt 37 = .ok (.goto (-35), 3) := by decide +kernel
theorem dX12_dotAt_40 : decode cX12_dotAt 40 = .ok (.bipush (-4), 2) := by decide +kernel
theorem dX12_dotAt_42 : decode cX12_dotAt 42 = .ok (.ireturn, 1) := by decide +kernel
theorem dX12_comesDot_0 : decode cX12_comesDot 0 = .ok (.aload_n 0, 1) := by decide +kernel
theorem dX12_comesDot_1 : decode cX12_comesDot 1 = .ok (.bipush 121, 2) := by decide +kernel
theorem dX12_comesDot_3 : decode cX12_comesDot 3 = .ok (.aload_n 0, 1) := by decide +kernel
theorem dX12_comesDot_4 : decode cX12_comesDot 4 = .ok (.sipush 141, 3) := by decide +kernel
theorem dX12_comesDot_7 : decode cX12_comesDot 7 = .ok (.iaload, 1) := by decide +kernel
theorem dX12_comesDot_8 : decode cX12_comesDot 8 = .ok (.iadd, 1) := by decide +kernel
theorem dX12_comesDot_9 : decode cX12_comesDot 9 = .ok (.iload_n 1, 1) := by decide +kernel
theorem dX12_comesDot_10 : decode cX12_comesDot 10 = .ok (.iastore, 1) := by decide +kernel
theorem dX12_comesDot_11 : decode cX12_comesDot 11 = .ok (.aload_n 0, 1) := by decide +kernel
theorem dX12_comesDot_12 : decode cX12_comesDot 12 = .ok (.sipush 131, 3) := by decide +kernel
theorem dX12_comesDot_15 : decode cX12_comesDot 15 = .ok (.aload_n 0, 1) := by decide +kernel
theorem dX12_comesDot_16 : decode cX12_comesDot 16 = .ok (.sipush 141, 3) := by decide +kernel
theorem dX12_comesDot_19 : decode cX12_comesDot 19 = .ok (.iaload, 1) := by decide +kernel
theorem dX12_comesDot_20 : decode cX12_comesDot 20 = .ok (.iadd, 1) := by decide +kernel
theorem dX12_comesDot_21 : decode cX12_comesDot 21 = .ok (.iload_n 2, 1) := by decide +kernel
theorem dX12_comesDot_22 : decode cX12_comesDot 22 = .ok (.iastore, 1) := by decide +kernel
theorem dX12_comesDot_23 : decode cX12_comesDot 23 = .ok (.aload_n 0, 1) := by decide +kernel
theorem dX12_comesDot_24 : decode cX12_comesDot 24 = .ok (.sipush 141, 3) := by decide +kernel
theorem dX12_comesDot_27 : decode cX12_comesDot 27 = .ok (.dup2, 1) := by decide +kernel
theorem dX12_comesDot_28 : decode cX12_comesDot 28 = .ok (.iaload, 1) := by decide +kernel
theorem dX12_comesDot_29 : decode cX12_comesDot 29 = .ok (.iconst 1, 1) := by decide +kernel
theorem dX12_comesDot_30 : decode cX12_comesDot 30 = .ok (.iadd, 1) := by decide +kernel
theorem dX12_comesDot_31 : decode cX12_comesDot 31 = .ok (.iastore, 1) := by decide +kernel
theorem dX12_comesDot_32 : decode cX12_comesDot 32 = .ok (.return_, 1) := by decide +kernel
theorem dX12_readsItem_0 : decode cX12_readsItem 0 = .ok (.aload_n 0, 1) := by decide +kernel
theorem dX12_readsItem_1 : decode cX12_readsItem 1 = .ok (.iload_n 1, 1) := by decide +kernel
theorem dX12_readsItem_2 : decode cX12_readsItem 2 = .ok (.invokevirtual 65, 3) := by decide +kernel
theorem dX12_readsItem_5 : decode cX12_readsItem 5 = .ok (.istore_n 2, 1) := by decide +kernel
theorem dX12_readsItem_6 : decode cX12_readsItem 6 = .ok (.iload_n 2, 1) := by decide +kernel
theorem dX12_readsItem_7 : decode cX12_readsItem 7 = .ok (.bipush 103, 2) := by decide +kernel
theorem dX12_readsItem_9 : decode cX12_readsItem 9 = .ok (.if_icmp .ne 18, 3) := by decide +kernel
theorem dX12_readsItem_12 : decode cX12_readsItem 12 = .ok (.aload_n 0, 1) := by decide +kernel
theorem dX12_readsItem_13 : decode cX12_readsItem 13 = .ok (.iload_n 1, 1) := by decide +kernel
theorem dX12_readsItem_14 : decode cX12_readsItem 14 = .ok (.invokevirtual 85, 3) := by decide +kernel
theorem dX12_readsItem_17 : decode cX12_readsItem 17 = .ok (.ifCond .eq 7, 3) := by decide +kernel
theorem dX12_readsItem_20 : decode cX12_readsItem 20 = .ok (.iconst 2, 1) := by decide +kernel
theorem dX12_readsItem_21 : decode cX12_readsItem 21 = .ok (.goto 5, 3) := by decide +kernel
theorem dX12_readsItem_24 : decode cX12_readsItem 24 = .ok (.bipush (-4), 2) := by decide +kernel
theorem dX12_readsItem_26 : decode cX12_readsItem 26 = .ok (.ireturn, 1) := by decide +kernel
theorem dX12_readsItem_27 : decode cX12_readsItem 27 = .ok (.iload_n 1, 1) := by decide +kernel
theorem dX12_readsItem_28 : decode cX12_readsItem 28 = .ok (.ifCond .ne 6, 3) := by decide +kernel
theorem dX12_readsItem_31 : decode cX12_readsItem 31 = .ok (.bipush (-4), 2) := by decide +kernel
theorem dX12_readsItem_33 : decode cX12_readsItem 33 = .ok (.ireturn, 1) := by decide +kernel
theorem dX12_readsItem_34 : decode cX12_readsItem 34 = .ok (.iload_n 2, 1) := by decide +kernel
theorem dX12_readsItem_35 : decode cX12_readsItem 35 = .ok (.lookupswitch 81 #[(100, 51), (109, 66), (114, 33)], 33) := by decide +kernel
theorem dX12_readsItem_68 : decode cX12_readsItem 68 = .ok (.aload_n 0, 1) := by decide +kernel
theorem dX12_readsItem_69 : decode cX12_readsItem 69 = .ok (.iload_n 1, 1) := by decide +kernel
theorem dX12_readsItem_70 : decode cX12_readsItem 70 = .ok (.invokevirtual 89, 3) := by decide +kernel
theorem dX12_readsItem_73 : decode cX12_readsItem 73 = .ok (.ifCond .eq 10, 3) := by decide +kernel
theorem dX12_readsItem_76 : decode cX12_readsItem 76 = .ok (.aload_n 0, 1) := by decide +kernel
theorem dX12_readsItem_77 : decode cX12_readsItem 77 = .ok (.getfield 72, 3) := by decide +kernel
theorem dX12_readsItem_80 : decode cX12_readsItem 80 = .ok (.goto 5, 3) := by decide +kernel
theorem dX12_readsItem_83 : decode cX12_readsItem 83 = .ok (.bipush (-4), 2) := by decide +kernel
theorem dX12_readsItem_85 : decode cX12_readsItem 85 = .ok (.ireturn, 1) := by decide +kernel
theorem dX12_readsItem_86 : decode cX12_readsItem 86 = .ok (.aload_n 0, 1) := by decide +kernel
theorem dX12_readsItem_87 : decode cX12_readsItem 87 = .ok (.iload_n 1, 1) := by decide +kernel
theorem dX12_readsItem_88 : decode cX12_readsItem 88 = .ok (.invokevirtual 92, 3) := by decide +kernel
theorem dX12_readsItem_91 : decode cX12_readsItem 91 = .ok (.ifCond .eq 7, 3) := by decide +kernel
theorem dX12_readsItem_94 : decode cX12_readsItem 94 = .ok (.iconst 2, 1) := by decide +kernel
theorem dX12_readsItem_95 : decode cX12_readsItem 95 = .ok (.goto 5, 3) := by decide +kernel
theorem dX12_readsItem_98 : decode cX12_readsItem 98 = .ok (.bipush (-4), 2) := by decide +kernel
theorem dX12_readsItem_100 : decode cX12_readsItem 100 = .ok (.ireturn, 1) := by decide +kernel
theorem dX12_readsItem_101 : decode cX12_readsItem 101 = .ok (.aload_n 0, 1) := by decide +kernel
theorem dX12_readsItem_102 : decode cX12_readsItem 102 = .ok (.iload_n 1, 1) := by decide +kernel
theorem dX12_readsItem_103 : decode cX12_readsItem 103 = .ok (.invokevirtual 95, 3) := by decide +kernel
theorem dX12_readsItem_106 : decode cX12_readsItem 106 = .ok (.ifCond .eq 7, 3) := by decide +kernel
theorem dX12_readsItem_109 : decode cX12_readsItem 109 = .ok (.iconst 3, 1) := by decide +kernel
theorem dX12_readsItem_110 : decode cX12_readsItem 110 = .ok (.goto 5, 3) := by decide +kernel
theorem dX12_readsItem_113 : decode cX12_readsItem 113 = .ok (.bipush (-4), 2) := by decide +kernel
theorem dX12_readsItem_115 : decode cX12_readsItem 115 = .ok (.ireturn, 1) := by decide +kernel
theorem dX12_readsItem_116 : decode cX12_readsItem 116 = .ok (.bipush (-4), 2) := by decide +kernel
theorem dX12_readsItem_118 : decode cX12_readsItem 118 = .ok (.ireturn, 1) := by decide +kernel
theorem dX12_reads_0 : decode cX12_reads 0 = .ok (.iconst 0, 1) := by decide +kernel
theorem dX12_reads_1 : decode cX12_reads 1 = .ok (.istore_n 1, 1) := by decide +kernel
theorem dX12_reads_2 : decode cX12_reads 2 = .ok (.iload_n 1, 1) := by decide +kernel
theorem dX12_reads_3 : decode cX12_reads 3 = .ok (.sipush 145, 3) := by decide +kernel
theorem dX12_reads_6 : decode cX12_reads 6 = .ok (.if_icmp .ge 16, 3) := by decide +kernel
theorem dX12_reads_9 : decode cX12_reads 9 = .ok (.aload_n 0, 1) := by decide +kernel
theorem dX12_reads_10 : decode cX12_reads 10 = .ok (.getfield 26, 3) := by decide +kernel
theorem dX12_reads_13 : decode cX12_reads 13 = .ok (.iload_n 1, 1) := by decide +kernel
theorem dX12_reads_14 : decode cX12_reads 14 = .ok (.iconst 0, 1) := by decide +kernel
theorem dX12_reads_15 : decode cX12_reads 15 = .ok (.iastore, 1) := by decide +kernel
theorem dX12_reads_16 : decode cX12_reads 16 = .ok (.iinc 1 1, 3) := by decide +kernel
theorem dX12_reads_19 : decode cX12_reads 19 = .ok (.goto (-17), 3) := by decide +kernel
theorem dX12_reads_22 : decode cX12_reads 22 = .ok (.aload_n 0, 1) := by decide +kernel
theorem dX12_reads_23 : decode cX12_reads 23 = .ok (.getfield 26, 3) := by decide +kernel
theorem dX12_reads_26 : decode cX12_reads 26 = .ok (.sipush 143, 3) := by decide +kernel
theorem dX12_reads_29 : decode cX12_reads 29 = .ok (.bipush 99, 2) := by decide +kernel
theorem dX12_reads_31 : decode cX12_reads 31 = .ok (.iastore, 1) := by decide +kernel
theorem dX12_reads_32 : decode cX12_reads 32 = .ok (.aload_n 0, 1) := by decide +kernel
theorem dX12_reads_33 : decode cX12_reads 33 = .ok (.iconst 0, 1) := by decide +kernel
theorem dX12_reads_34 : decode cX12_reads 34 = .ok (.putfield 78, 3) := by decide +kernel
theorem dX12_reads_37 : decode cX12_reads 37 = .ok (.iconst 0, 1) := by decide +kernel
theorem dX12_reads_38 : decode cX12_reads 38 = .ok (.istore_n 1, 1) := by decide +kernel
theorem dX12_reads_39 : decode cX12_reads 39 = .ok (.iload_n 1, 1) := by decide +kernel
theorem dX12_reads_40 : decode cX12_reads 40 = .ok (.aload_n 0, 1) := by decide +kernel
theorem dX12_reads_41 : decode cX12_reads 41 = .ok (.getfield 62, 3) := by decide +kernel
theorem dX12_reads_44 : decode cX12_reads 44 = .ok (.if_icmp .ge 40, 3) := by decide +kernel
theorem dX12_reads_47 : decode cX12_reads 47 = .ok (.aload_n 0, 1) := by decide +kernel
theorem dX12_reads_48 : decode cX12_reads 48 = .ok (.iload_n 1, 1) := by decide +kernel
theorem dX12_reads_49 : decode cX12_reads 49 = .ok (.invokevirtual 98, 3) := by decide +kernel
theorem dX12_reads_52 : decode cX12_reads 52 = .ok (.istore_n 2, 1) := by decide +kernel
theorem dX12_reads_53 : decode cX12_reads 53 = .ok (.iload_n 2, 1) := by decide +kernel
theorem dX12_reads_54 : decode cX12_reads 54 = .ok (.bipush (-4), 2) := by decide +kernel
theorem dX12_reads_56 : decode cX12_reads 56 = .ok (.if_icmp .eq 17, 3) := by decide +kernel
theorem dX12_reads_59 : decode cX12_reads 59 = .ok (.aload_n 0, 1) := by decide +kernel
theorem dX12_reads_60 : decode cX12_reads 60 = .ok (.iload_n 1, 1) := by decide +kernel
theorem dX12_reads_61 : decode cX12_reads 61 = .ok (.iconst 1, 1) := by decide +kernel
theorem dX12_reads_62 : decode cX12_reads 62 = .ok (.iadd, 1) := by decide +kernel
theorem dX12_reads_63 : decode cX12_reads 63 = .ok (.iload_n 2, 1) := by decide +kernel
theorem dX12_reads_64 : decode cX12_reads 64 = .ok (.iadd, 1) := by decide +kernel
theorem dX12_reads_65 : decode cX12_reads 65 = .ok (.invokevirtual 65, 3) := by decide +kernel
theorem dX12_reads_68 : decode cX12_reads 68 = .ok (.bipush 59, 2) := by decide +kernel
theorem dX12_reads_70 : decode cX12_reads 70 = .ok (.if_icmp .eq 5, 3) := by decide +kernel
theorem dX12_reads_73 : decode cX12_reads 73 = .ok (.iload_n 1, 1) := by decide +kernel
theorem dX12_reads_74 : decode cX12_reads 74 = .ok (.ireturn, 1) := by decide +kernel
theorem dX12_reads_75 : decode cX12_reads 75 = .ok (.iload_n 1, 1) := by decide +kernel
theorem dX12_reads_76 : decode cX12_reads 76 = .ok (.iload_n 2, 1) := by decide +kernel
theorem dX12_reads_77 : decode cX12_reads 77 = .ok (.iconst 2, 1) := by decide +kernel
theorem dX12_reads_78 : decode cX12_reads 78 = .ok (.iadd, 1) := by decide +kernel
theorem dX12_reads_79 : decode cX12_reads 79 = .ok (.iadd, 1) := by decide +kernel
theorem dX12_reads_80 : decode cX12_reads 80 = .ok (.istore_n 1, 1) := by decide +kernel
theorem dX12_reads_81 : decode cX12_reads 81 = .ok (.goto (-42), 3) := by decide +kernel
theorem dX12_reads_84 : decode cX12_reads 84 = .ok (.bipush (-4), 2) := by decide +kernel
theorem dX12_reads_86 : decode cX12_reads 86 = .ok (.ireturn, 1) := by decide +kernel
theorem dX12_fault_0 : decode cX12_fault 0 = .ok (.aload_n 0, 1) := by decide +kernel
end
section
theorem dX12_fault_1 : decode cX12_fault 1 = .ok (.invokevirtual 101, 3) := by decide +kernel
theorem dX12_fault_4 : decode cX12_fault 4 = .ok (.ireturn, 1) := by decide +kernel
theorem dX12_lay_0 : decode cX12_lay 0 = .ok (.aload_n 0, 1) := by decide +kernel
theorem dX12_lay_1 : decode cX12_lay 1 = .ok (.invokevirtual 101, 3) := by decide +kernel
theorem dX12_lay_4 : decode cX12_lay 4 = .ok (.bipush (-4), 2) := by decide +kernel
theorem dX12_lay_6 : decode cX12_lay 6 = .ok (.if_icmp .ne 21, 3) := by decide +kernel
theorem dX12_lay_9 : decode cX12_lay 9 = .ok (.aload_n 0, 1) := by decide +kernel
theorem dX12_lay_10 : decode cX12_lay 10 = .ok (.getfield 62, 3) := by decide +kernel
theorem dX12_lay_13 : decode cX12_lay 13 = .ok (.ifCond .eq 14, 3) := by decide +kernel
theorem dX12_lay_16 : decode cX12_lay 16 = .ok (.aload_n 0, 1) := by decide +kernel
theorem dX12_lay_17 : decode cX12_lay 17 = .ok (.getfield 26, 3) := by decide +kernel
theorem dX12_lay_20 : decode cX12_lay 20 = .ok (.sipush 141, 3) := by decide +kernel
theorem dX12_lay_23 : decode cX12_lay 23 = .ok (.iaload, 1) := by decide +kernel
theorem dX12_lay_24 : decode cX12_lay 24 = .ok (.ifCond .ne 6, 3) := by decide +kernel
theorem dX12_lay_27 : decode cX12_lay 27 = .ok (.bipush (-2), 2) := by decide +kernel
theorem dX12_lay_29 : decode cX12_lay 29 = .ok (.ireturn, 1) := by decide +kernel
theorem dX12_lay_30 : decode cX12_lay 30 = .ok (.aload_n 0, 1) := by decide +kernel
theorem dX12_lay_31 : decode cX12_lay 31 = .ok (.aload_n 0, 1) := by decide +kernel
theorem dX12_lay_32 : decode cX12_lay 32 = .ok (.getfield 72, 3) := by decide +kernel
theorem dX12_lay_35 : decode cX12_lay 35 = .ok (.putfield 44, 3) := by decide +kernel
theorem dX12_lay_38 : decode cX12_lay 38 = .ok (.aload_n 0, 1) := by decide +kernel
theorem dX12_lay_39 : decode cX12_lay 39 = .ok (.aload_n 0, 1) := by decide +kernel
theorem dX12_lay_40 : decode cX12_lay 40 = .ok (.getfield 75, 3) := by decide +kernel
theorem dX12_lay_43 : decode cX12_lay 43 = .ok (.putfield 47, 3) := by decide +kernel
theorem dX12_lay_46 : decode cX12_lay 46 = .ok (.iconst 0, 1) := by decide +kernel
theorem dX12_lay_47 : decode cX12_lay 47 = .ok (.istore_n 1, 1) := by decide +kernel
theorem dX12_lay_48 : decode cX12_lay 48 = .ok (.iload_n 1, 1) := by decide +kernel
theorem dX12_lay_49 : decode cX12_lay 49 = .ok (.sipush 145, 3) := by decide +kernel
theorem dX12_lay_52 : decode cX12_lay 52 = .ok (.if_icmp .ge 21, 3) := by decide +kernel
theorem dX12_lay_55 : decode cX12_lay 55 = .ok (.aload_n 0, 1) := by decide +kernel
theorem dX12_lay_56 : decode cX12_lay 56 = .ok (.getfield 7, 3) := by decide +kernel
theorem dX12_lay_59 : decode cX12_lay 59 = .ok (.iload_n 1, 1) := by decide +kernel
theorem dX12_lay_60 : decode cX12_lay 60 = .ok (.aload_n 0, 1) := by decide +kernel
theorem dX12_lay_61 : decode cX12_lay 61 = .ok (.getfield 26, 3) := by decide +kernel
theorem dX12_lay_64 : decode cX12_lay 64 = .ok (.iload_n 1, 1) := by decide +kernel
theorem dX12_lay_65 : decode cX12_lay 65 = .ok (.iaload, 1) := by decide +kernel
theorem dX12_lay_66 : decode cX12_lay 66 = .ok (.iastore, 1) := by decide +kernel
theorem dX12_lay_67 : decode cX12_lay 67 = .ok (.iinc 1 1, 3) := by decide +kernel
theorem dX12_lay_70 : decode cX12_lay 70 = .ok (.goto (-22), 3) := by decide +kernel
theorem dX12_lay_73 : decode cX12_lay 73 = .ok (.aload_n 0, 1) := by decide +kernel
theorem dX12_lay_74 : decode cX12_lay 74 = .ok (.iconst 0, 1) := by decide +kernel
theorem dX12_lay_75 : decode cX12_lay 75 = .ok (.putfield 105, 3) := by decide +kernel
theorem dX12_lay_78 : decode cX12_lay 78 = .ok (.aload_n 0, 1) := by decide +kernel
theorem dX12_lay_79 : decode cX12_lay 79 = .ok (.iconst 2, 1) := by decide +kernel
theorem dX12_lay_80 : decode cX12_lay 80 = .ok (.putfield 19, 3) := by decide +kernel
theorem dX12_lay_83 : decode cX12_lay 83 = .ok (.aload_n 0, 1) := by decide +kernel
theorem dX12_lay_84 : decode cX12_lay 84 = .ok (.iconst 0, 1) := by decide +kernel
theorem dX12_lay_85 : decode cX12_lay 85 = .ok (.putfield 108, 3) := by decide +kernel
theorem dX12_lay_88 : decode cX12_lay 88 = .ok (.aload_n 0, 1) := by decide +kernel
theorem dX12_lay_89 : decode cX12_lay 89 = .ok (.iconst 0, 1) := by decide +kernel
theorem dX12_lay_90 : decode cX12_lay 90 = .ok (.putfield 111, 3) := by decide +kernel
theorem dX12_lay_93 : decode cX12_lay 93 = .ok (.aload_n 0, 1) := by decide +kernel
theorem dX12_lay_94 : decode cX12_lay 94 = .ok (.invokevirtual 114, 3) := by decide +kernel
theorem dX12_lay_97 : decode cX12_lay 97 = .ok (.ireturn, 1) := by decide +kernel
theorem dX12_edges_0 : decode cX12_edges 0 = .ok (.iconst 0, 1) := by decide +kernel
theorem dX12_edges_1 : decode cX12_edges 1 = .ok (.istore_n 1, 1) := by decide +kernel
theorem dX12_edges_2 : decode cX12_edges 2 = .ok (.iconst 0, 1) := by decide +kernel
theorem dX12_edges_3 : decode cX12_edges 3 = .ok (.istore_n 2, 1) := by decide +kernel
theorem dX12_edges_4 : decode cX12_edges 4 = .ok (.iload_n 2, 1) := by decide +kernel
theorem dX12_edges_5 : decode cX12_edges 5 = .ok (.bipush 121, 2) := by decide +kernel
theorem dX12_edges_7 : decode cX12_edges 7 = .ok (.if_icmp .ge 18, 3) := by decide +kernel
theorem dX12_edges_10 : decode cX12_edges 10 = .ok (.iload_n 1, 1) := by decide +kernel
theorem dX12_edges_11 : decode cX12_edges 11 = .ok (.aload_n 0, 1) := by decide +kernel
theorem dX12_edges_12 : decode cX12_edges 12 = .ok (.getfield 7, 3) := by decide +kernel
theorem dX12_edges_15 : decode cX12_edges 15 = .ok (.iload_n 2, 1) := by decide +kernel
theorem dX12_edges_16 : decode cX12_edges 16 = .ok (.iaload, 1) := by decide +kernel
theorem dX12_edges_17 : decode cX12_edges 17 = .ok (.iadd, 1) := by decide +kernel
theorem dX12_edges_18 : decode cX12_edges 18 = .ok (.istore_n 1, 1) := by decide +kernel
theorem dX12_edges_19 : decode cX12_edges 19 = .ok (.iinc 2 1, 3) := by decide +kernel
theorem dX12_edges_22 : decode cX12_edges 22 = .ok (.goto (-18), 3) := by decide +kernel
theorem dX12_edges_25 : decode cX12_edges 25 = .ok (.iload_n 1, 1) := by decide +kernel
theorem dX12_edges_26 : decode cX12_edges 26 = .ok (.ireturn, 1) := by decide +kernel
theorem dX12_remembers_0 : decode cX12_remembers 0 = .ok (.iconst 0, 1) := by decide +kernel
theorem dX12_remembers_1 : decode cX12_remembers 1 = .ok (.istore_n 1, 1) := by decide +kernel
theorem dX12_remembers_2 : decode cX12_remembers 2 = .ok (.iload_n 1, 1) := by decide +kernel
theorem dX12_remembers_3 : decode cX12_remembers 3 = .ok (.sipush 145, 3) := by decide +kernel
theorem dX12_remembers_6 : decode cX12_remembers 6 = .ok (.if_icmp .ge 30, 3) := by decide +kernel
theorem dX12_remembers_9 : decode cX12_remembers 9 = .ok (.aload_n 0, 1) := by decide +kernel
theorem dX12_remembers_10 : decode cX12_remembers 10 = .ok (.getfield 13, 3) := by decide +kernel
theorem dX12_remembers_13 : decode cX12_remembers 13 = .ok (.sipush 145, 3) := by decide +kernel
theorem dX12_remembers_16 : decode cX12_remembers 16 = .ok (.aload_n 0, 1) := by decide +kernel
theorem dX12_remembers_17 : decode cX12_remembers 17 = .ok (.getfield 117, 3) := by decide +kernel
theorem dX12_remembers_20 : decode cX12_remembers 20 = .ok (.imul, 1) := by decide +kernel
theorem dX12_remembers_21 : decode cX12_remembers 21 = .ok (.iload_n 1, 1) := by decide +kernel
theorem dX12_remembers_22 : decode cX12_remembers 22 = .ok (.iadd, 1) := by decide +kernel
theorem dX12_remembers_23 : decode cX12_remembers 23 = .ok (.aload_n 0, 1) := by decide +kernel
theorem dX12_remembers_24 : decode cX12_remembers 24 = .ok (.getfield 7, 3) := by decide +kernel
theorem dX12_remembers_27 : decode cX12_remembers 27 = .ok (.iload_n 1, 1) := by decide +kernel
theorem dX12_remembers_28 : decode cX12_remembers 28 = .ok (.iaload, 1) := by decide +kernel
theorem dX12_remembers_29 : decode cX12_remembers 29 = .ok (.iastore, 1) := by decide +kernel
theorem dX12_remembers_30 : decode cX12_remembers 30 = .ok (.iinc 1 1, 3) := by decide +kernel
theorem dX12_remembers_33 : decode cX12_remembers 33 = .ok (.goto (-31), 3) := by decide +kernel
theorem dX12_remembers_36 : decode cX12_remembers 36 = .ok (.aload_n 0, 1) := by decide +kernel
theorem dX12_remembers_37 : decode cX12_remembers 37 = .ok (.aload_n 0, 1) := by decide +kernel
theorem dX12_remembers_38 : decode cX12_remembers 38 = .ok (.getfield 117, 3) := by decide +kernel
theorem dX12_remembers_41 : decode cX12_remembers 41 = .ok (.iconst 1, 1) := by decide +kernel
theorem dX12_remembers_42 : decode cX12_remembers 42 = .ok (.iadd, 1) := by decide +kernel
theorem dX12_remembers_43 : decode cX12_remembers 43 = .ok (.bipush 6, 2) := by decide +kernel
theorem dX12_remembers_45 : decode cX12_remembers 45 = .ok (.irem, 1) := by decide +kernel
theorem dX12_remembers_46 : decode cX12_remembers 46 = .ok (.putfield 117, 3) := by decide +kernel
theorem dX12_remembers_49 : decode cX12_remembers 49 = .ok (.aload_n 0, 1) := by decide +kernel
theorem dX12_remembers_50 : decode cX12_remembers 50 = .ok (.dup, 1) := by decide +kernel
theorem dX12_remembers_51 : decode cX12_remembers 51 = .ok (.getfield 105, 3) := by decide +kernel
theorem dX12_remembers_54 : decode cX12_remembers 54 = .ok (.aload_n 0, 1) := by decide +kernel
theorem dX12_remembers_55 : decode cX12_remembers 55 = .ok (.getfield 105, 3) := by decide +kernel
theorem dX12_remembers_58 : decode cX12_remembers 58 = .ok (.bipush 6, 2) := by decide +kernel
theorem dX12_remembers_60 : decode cX12_remembers 60 = .ok (.if_icmp .ge 7, 3) := by decide +kernel
theorem dX12_remembers_63 : decode cX12_remembers 63 = .ok (.iconst 1, 1) := by decide +kernel
theorem dX12_remembers_64 : decode cX12_remembers 64 = .ok (.goto 4, 3) := by decide +kernel
theorem dX12_remembers_67 : decode cX12_remembers 67 = .ok (.iconst 0, 1) := by decide +kernel
theorem dX12_remembers_68 : decode cX12_remembers 68 = .ok (.iadd, 1) := by decide +kernel
theorem dX12_remembers_69 : decode cX12_remembers 69 = .ok (.putfield 105, 3) := by decide +kernel
theorem dX12_remembers_72 : decode cX12_remembers 72 = .ok (.return_, 1) := by decide +kernel
theorem dX12_undo_0 : decode cX12_undo 0 = .ok (.aload_n 0, 1) := by decide +kernel
theorem dX12_undo_1 : decode cX12_undo 1 = .ok (.getfield 105, 3) := by decide +kernel
theorem dX12_undo_4 : decode cX12_undo 4 = .ok (.ifCond .ne 6, 3) := by decide +kernel
theorem dX12_undo_7 : decode cX12_undo 7 = .ok (.bipush (-2), 2) := by decide +kernel
theorem dX12_undo_9 : decode cX12_undo 9 = .ok (.ireturn, 1) := by decide +kernel
theorem dX12_undo_10 : decode cX12_undo 10 = .ok (.aload_n 0, 1) := by decide +kernel
theorem dX12_undo_11 : decode cX12_undo 11 = .ok (.aload_n 0, 1) := by decide +kernel
theorem dX12_undo_12 : decode cX12_undo 12 = .ok (.getfield 117, 3) := by decide +kernel
theorem dX12_undo_15 : decode cX12_undo 15 = .ok (.bipush 6, 2) := by decide +kernel
theorem dX12_undo_17 : decode cX12_undo 17 = .ok (.iadd, 1) := by decide +kernel
theorem dX12_undo_18 : decode cX12_undo 18 = .ok (.iconst 1, 1) := by decide +kernel
theorem dX12_undo_19 : decode cX12_undo 19 = .ok (.isub, 1) := by decide +kernel
theorem dX12_undo_20 : decode cX12_undo 20 = .ok (.bipush 6, 2) := by decide +kernel
theorem dX12_undo_22 : decode cX12_undo 22 = .ok (.irem, 1) := by decide +kernel
theorem dX12_undo_23 : decode cX12_undo 23 = .ok (.putfield 117, 3) := by decide +kernel
theorem dX12_undo_26 : decode cX12_undo 26 = .ok (.aload_n 0, 1) := by decide +kernel
theorem dX12_undo_27 : decode cX12_undo 27 = .ok (.dup, 1) := by decide +kernel
theorem dX12_undo_28 : decode cX12_undo 28 = .ok (.getfield 105, 3) := by decide +kernel
theorem dX12_undo_31 : decode cX12_undo 31 = .ok (.iconst 1, 1) := by decide +kernel
theorem dX12_undo_32 : decode cX12_undo 32 = .ok (.isub, 1) := by decide +kernel
theorem dX12_undo_33 : decode cX12_undo 33 = .ok (.putfield 105, 3) := by decide +kernel
theorem dX12_undo_36 : decode cX12_undo 36 = .ok (.iconst 0, 1) := by decide +kernel
theorem dX12_undo_37 : decode cX12_undo 37 = .ok (.istore_n 1, 1) := by decide +kernel
theorem dX12_undo_38 : decode cX12_undo 38 = .ok (.iload_n 1, 1) := by decide +kernel
theorem dX12_undo_39 : decode cX12_undo 39 = .ok (.sipush 145, 3) := by decide +kernel
theorem dX12_undo_42 : decode cX12_undo 42 = .ok (.if_icmp .ge 30, 3) := by decide +kernel
theorem dX12_undo_45 : decode cX12_undo 45 = .ok (.aload_n 0, 1) := by decide +kernel
theorem dX12_undo_46 : decode cX12_undo 46 = .ok (.getfield 7, 3) := by decide +kernel
theorem dX12_undo_49 : decode cX12_undo 49 = .ok (.iload_n 1, 1) := by decide +kernel
theorem dX12_undo_50 : decode cX12_undo 50 = .ok (.aload_n 0, 1) := by decide +kernel
theorem dX12_undo_51 : decode cX12_undo 51 = .ok (.getfield 13, 3) := by decide +kernel
theorem dX12_undo_54 : decode cX12_undo 54 = .ok (.sipush 145, 3) := by decide +kernel
theorem dX12_undo_57 : decode cX12_undo 57 = .ok (.aload_n 0, 1) := by decide +kernel
theorem dX12_undo_58 : decode cX12_undo 58 = .ok (.getfield 117, 3) := by decide +kernel
theorem dX12_undo_61 : decode cX12_undo 61 = .ok (.imul, 1) := by decide +kernel
theorem dX12_undo_62 : decode cX12_undo 62 = .ok (.iload_n 1, 1) := by decide +kernel
theorem dX12_undo_63 : decode cX12_undo 63 = .ok (.iadd, 1) := by decide +kernel
theorem dX12_undo_64 : decode cX12_undo 64 = .ok (.iaload, 1) := by decide +kernel
theorem dX12_undo_65 : decode cX12_undo 65 = .ok (.iastore, 1) := by decide +kernel
theorem dX12_undo_66 : decode cX12_undo 66 = .ok (.iinc 1 1, 3) := by decide +kernel
theorem dX12_undo_69 : decode cX12_undo 69 = .ok (.goto (-31), 3) := by decide +kernel
theorem dX12_undo_72 : decode cX12_undo 72 = .ok (.aload_n 0, 1) := by decide +kernel
theorem dX12_undo_73 : decode cX12_undo 73 = .ok (.getfield 105, 3) := by decide +kernel
theorem dX12_undo_76 : decode cX12_undo 76 = .ok (.ireturn, 1) := by decide +kernel
theorem dX12_isCell_0 : decode cX12_isCell 0 = .ok (.iload_n 1, 1) := by decide +kernel
theorem dX12_isCell_1 : decode cX12_isCell 1 = .ok (.iconst 0, 1) := by decide +kernel
theorem dX12_isCell_2 : decode cX12_isCell 2 = .ok (.aload_n 0, 1) := by decide +kernel
theorem dX12_isCell_3 : decode cX12_isCell 3 = .ok (.getfield 44, 3) := by decide +kernel
theorem dX12_isCell_6 : decode cX12_isCell 6 = .ok (.iconst 1, 1) := by decide +kernel
theorem dX12_isCell_7 : decode cX12_isCell 7 = .ok (.isub, 1) := by decide +kernel
theorem dX12_isCell_8 : decode cX12_isCell 8 = .ok (.invokestatic 58, 3) := by decide +kernel
theorem dX12_isCell_11 : decode cX12_isCell 11 = .ok (.ifCond .eq 21, 3) := by decide +kernel
theorem dX12_isCell_14 : decode cX12_isCell 14 = .ok (.iload_n 2, 1) := by decide +kernel
theorem dX12_isCell_15 : decode cX12_isCell 15 = .ok (.iconst 0, 1) := by decide +kernel
theorem dX12_isCell_16 : decode cX12_isCell 16 = .ok (.aload_n 0, 1) := by decide +kernel
theorem dX12_isCell_17 : decode cX12_isCell 17 = .ok (.getfield 47, 3) := by decide +kernel
theorem dX12_isCell_20 : decode cX12_isCell 20 = .ok (.iconst 1, 1) := by decide +kernel
theorem dX12_isCell_21 : decode cX12_isCell 21 = .ok (.isub, 1) := by decide +kernel
theorem dX12_isCell_22 : decode cX12_isCell 22 = .ok (.invokestatic 58, 3) := by decide +kernel
theorem dX12_isCell_25 : decode cX12_isCell 25 = .ok (.ifCond .eq 7, 3) := by decide +kernel
theorem dX12_isCell_28 : decode cX12_isCell 28 = .ok (.iconst 1, 1) := by decide +kernel
theorem dX12_isCell_29 : decode cX12_isCell 29 = .ok (.goto 4, 3) := by decide +kernel
theorem dX12_isCell_32 : decode cX12_isCell 32 = .ok (.iconst 0, 1) := by decide +kernel
theorem dX12_isCell_33 : decode cX12_isCell 33 = .ok (.ireturn, 1) := by decide +kernel
theorem dX12_at_0 : decode cX12_at 0 = .ok (.bipush 11, 2) := by decide +kernel
theorem dX12_at_2 : decode cX12_at 2 = .ok (.iload_n 1, 1) := by decide +kernel
theorem dX12_at_3 : decode cX12_at 3 = .ok (.imul, 1) := by decide +kernel
theorem dX12_at_4 : decode cX12_at 4 = .ok (.iload_n 0, 1) := by decide +kernel
theorem dX12_at_5 : decode cX12_at 5 = .ok (.iadd, 1) := by decide +kernel
theorem dX12_at_6 : decode cX12_at 6 = .ok (.ireturn, 1) := by decide +kernel
theorem dX12_edge_0 : decode cX12_edge 0 = .ok (.aload_n 0, 1) := by decide +kernel
theorem dX12_edge_1 : decode cX12_edge 1 = .ok (.iload_n 1, 1) := by decide +kernel
theorem dX12_edge_2 : decode cX12_edge 2 = .ok (.iload_n 2, 1) := by decide +kernel
theorem dX12_edge_3 : decode cX12_edge 3 = .ok (.invokevirtual 120, 3) := by decide +kernel
theorem dX12_edge_6 : decode cX12_edge 6 = .ok (.ifCond .eq 12, 3) := by decide +kernel
theorem dX12_edge_9 : decode cX12_edge 9 = .ok (.iload_n 3, 1) := by decide +kernel
theorem dX12_edge_10 : decode cX12_edge 10 = .ok (.iconst 0, 1) := by decide +kernel
theorem dX12_edge_11 : decode cX12_edge 11 = .ok (.iconst 1, 1) := by decide +kernel
theorem dX12_edge_12 : decode cX12_edge 12 = .ok (.invokestatic 58, 3) := by decide +kernel
theorem dX12_edge_15 : decode cX12_edge 15 = .ok (.ifCond .ne 5, 3) := by decide +kernel
theorem dX12_edge_18 : decode cX12_edge 18 = .ok (.iconst (-1), 1) := by decide +kernel
theorem dX12_edge_19 : decode cX12_edge 19 = .ok (.ireturn, 1) := by decide +kernel
theorem dX12_edge_20 : decode cX12_edge 20 = .ok (.aload_n 0, 1) := by decide +kernel
theorem dX12_edge_21 : decode cX12_edge 21 = .ok (.getfield 7, 3) := by decide +kernel
theorem dX12_edge_24 : decode cX12_edge 24 = .ok (.iload_n 1, 1) := by decide +kernel
theorem dX12_edge_25 : decode cX12_edge 25 = .ok (.iload_n 2, 1) := by decide +kernel
theorem dX12_edge_26 : decode cX12_edge 26 = .ok (.invokestatic 50, 3) := by decide +kernel
theorem dX12_edge_29 : decode cX12_edge 29 = .ok (.iaload, 1) := by decide +kernel
theorem dX12_edge_30 : decode cX12_edge 30 = .ok (.iload_n 3, 1) := by decide +kernel
theorem dX12_edge_31 : decode cX12_edge 31 = .ok (.if_icmp .ne 6, 3) := by decide +kernel
theorem dX12_edge_34 : decode cX12_edge 34 = .ok (.bipush (-2), 2) := by decide +kernel
theorem dX12_edge_36 : decode cX12_edge 36 = .ok (.ireturn, 1) := by decide +kernel
theorem dX12_edge_37 : decode cX12_edge 37 = .ok (.aload_n 0, 1) := by decide +kernel
theorem dX12_edge_38 : decode cX12_edge 38 = .ok (.invokevirtual 124, 3) := by decide +kernel
theorem dX12_edge_41 : decode cX12_edge 41 = .ok (.aload_n 0, 1) := by decide +kernel
theorem dX12_edge_42 : decode cX12_edge 42 = .ok (.getfield 7, 3) := by decide +kernel
theorem dX12_edge_45 : decode cX12_edge 45 = .ok (.iload_n 1, 1) := by decide +kernel
theorem dX12_edge_46 : decode cX12_edge 46 = .ok (.iload_n 2, 1) := by decide +kernel
theorem dX12_edge_47 : decode cX12_edge 47 = .ok (.invokestatic 50, 3) := by decide +kernel
theorem dX12_edge_50 : decode cX12_edge 50 = .ok (.iload_n 3, 1) := by decide +kernel
theorem dX12_edge_51 : decode cX12_edge 51 = .ok (.iastore, 1) := by decide +kernel
theorem dX12_edge_52 : decode cX12_edge 52 = .ok (.aload_n 0, 1) := by decide +kernel
theorem dX12_edge_53 : decode cX12_edge 53 = .ok (.invokevirtual 114, 3) := by decide +kernel
theorem dX12_edge_56 : decode cX12_edge 56 = .ok (.ireturn, 1) := by decide +kernel
theorem dX12_dot_0 : decode cX12_dot 0 = .ok (.iload_n 1, 1) := by decide +kernel
theorem dX12_dot_1 : decode cX12_dot 1 = .ok (.bipush (-5), 2) := by decide +kernel
theorem dX12_dot_3 : decode cX12_dot 3 = .ok (.iconst 5, 1) := by decide +kernel
theorem dX12_dot_4 : decode cX12_dot 4 = .ok (.invokestatic 58, 3) := by decide +kernel
theorem dX12_dot_7 : decode cX12_dot 7 = .ok (.ifCond .eq 13, 3) := by decide +kernel
theorem dX12_dot_10 : decode cX12_dot 10 = .ok (.iload_n 2, 1) := by decide +kernel
theorem dX12_dot_11 : decode cX12_dot 11 = .ok (.bipush (-5), 2) := by decide +kernel
theorem dX12_dot_13 : decode cX12_dot 13 = .ok (.iconst 5, 1) := by decide +kernel
theorem dX12_dot_14 : decode cX12_dot 14 = .ok (.invokestatic 58, 3) := by decide +kernel
theorem dX12_dot_17 : decode cX12_dot 17 = .ok (.ifCond .ne 5, 3) := by decide +kernel
theorem dX12_dot_20 : decode cX12_dot 20 = .ok (.iconst (-1), 1) := by decide +kernel
theorem dX12_dot_21 : decode cX12_dot 21 = .ok (.ireturn, 1) := by decide +kernel
theorem dX12_dot_22 : decode cX12_dot 22 = .ok (.aload_n 0, 1) := by decide +kernel
theorem dX12_dot_23 : decode cX12_dot 23 = .ok (.getfield 7, 3) := by decide +kernel
theorem dX12_dot_26 : decode cX12_dot 26 = .ok (.iload_n 1, 1) := by decide +kernel
theorem dX12_dot_27 : decode cX12_dot 27 = .ok (.iload_n 2, 1) := by decide +kernel
theorem dX12_dot_28 : decode cX12_dot 28 = .ok (.invokestatic 81, 3) := by decide +kernel
theorem dX12_dot_31 : decode cX12_dot 31 = .ok (.bipush (-4), 2) := by decide +kernel
theorem dX12_dot_33 : decode cX12_dot 33 = .ok (.if_icmp .eq 6, 3) := by decide +kernel
theorem dX12_dot_36 : decode cX12_dot 36 = .ok (.bipush (-2), 2) := by decide +kernel
theorem dX12_dot_38 : decode cX12_dot 38 = .ok (.ireturn, 1) := by decide +kernel
theorem dX12_dot_39 : decode cX12_dot 39 = .ok (.aload_n 0, 1) := by decide +kernel
theorem dX12_dot_40 : decode cX12_dot 40 = .ok (.getfield 7, 3) := by decide +kernel
theorem dX12_dot_43 : decode cX12_dot 43 = .ok (.sipush 141, 3) := by decide +kernel
theorem dX12_dot_46 : decode cX12_dot 46 = .ok (.iaload, 1) := by decide +kernel
theorem dX12_dot_47 : decode cX12_dot 47 = .ok (.bipush 10, 2) := by decide +kernel
theorem dX12_dot_49 : decode cX12_dot 49 = .ok (.if_icmp .ne 6, 3) := by decide +kernel
theorem dX12_dot_52 : decode cX12_dot 52 = .ok (.bipush (-3), 2) := by decide +kernel
theorem dX12_dot_54 : decode cX12_dot 54 = .ok (.ireturn, 1) := by decide +kernel
theorem dX12_dot_55 : decode cX12_dot 55 = .ok (.aload_n 0, 1) := by decide +kernel
theorem dX12_dot_56 : decode cX12_dot 56 = .ok (.invokevirtual 124, 3) := by decide +kernel
theorem dX12_dot_59 : decode cX12_dot 59 = .ok (.aload_n 0, 1) := by decide +kernel
theorem dX12_dot_60 : decode cX12_dot 60 = .ok (.getfield 7, 3) := by decide +kernel
theorem dX12_dot_63 : decode cX12_dot 63 = .ok (.iload_n 1, 1) := by decide +kernel
theorem dX12_dot_64 : decode cX12_dot 64 = .ok (.iload_n 2, 1) := by decide +kernel
theorem dX12_dot_65 : decode cX12_dot 65 = .ok (.invokestatic 54, 3) := by decide +kernel
theorem dX12_dot_68 : decode cX12_dot 68 = .ok (.aload_n 0, 1) := by decide +kernel
theorem dX12_dot_69 : decode cX12_dot 69 = .ok (.getfield 7, 3) := by decide +kernel
theorem dX12_dot_72 : decode cX12_dot 72 = .ok (.sipush 141, 3) := by decide +kernel
theorem dX12_dot_75 : decode cX12_dot 75 = .ok (.iaload, 1) := by decide +kernel
theorem dX12_dot_76 : decode cX12_dot 76 = .ok (.iconst 1, 1) := by decide +kernel
theorem dX12_dot_77 : decode cX12_dot 77 = .ok (.isub, 1) := by decide +kernel
theorem dX12_dot_78 : decode cX12_dot 78 = .ok (.ireturn, 1) := by decide +kernel
theorem dX12_isDot_0 : decode cX12_isDot 0 = .ok (.iload_n 1, 1) := by decide +kernel
theorem dX12_isDot_1 : decode cX12_isDot 1 = .ok (.iconst 0, 1) := by decide +kernel
theorem dX12_isDot_2 : decode cX12_isDot 2 = .ok (.aload_n 0, 1) := by decide +kernel
theorem dX12_isDot_3 : decode cX12_isDot 3 = .ok (.getfield 7, 3) := by decide +kernel
theorem dX12_isDot_6 : decode cX12_isDot 6 = .ok (.sipush 141, 3) := by decide +kernel
theorem dX12_isDot_9 : decode cX12_isDot 9 = .ok (.iaload, 1) := by decide +kernel
theorem dX12_isDot_10 : decode cX12_isDot 10 = .ok (.iconst 1, 1) := by decide +kernel
theorem dX12_isDot_11 : decode cX12_isDot 11 = .ok (.isub, 1) := by decide +kernel
theorem dX12_isDot_12 : decode cX12_isDot 12 = .ok (.invokestatic 58, 3) := by decide +kernel
theorem dX12_isDot_15 : decode cX12_isDot 15 = .ok (.ireturn, 1) := by decide +kernel
theorem dX12_drop_0 : decode cX12_drop 0 = .ok (.aload_n 0, 1) := by decide +kernel
theorem dX12_drop_1 : decode cX12_drop 1 = .ok (.iload_n 1, 1) := by decide +kernel
theorem dX12_drop_2 : decode cX12_drop 2 = .ok (.invokevirtual 127, 3) := by decide +kernel
theorem dX12_drop_5 : decode cX12_drop 5 = .ok (.ifCond .ne 5, 3) := by decide +kernel
theorem dX12_drop_8 : decode cX12_drop 8 = .ok (.iconst (-1), 1) := by decide +kernel
theorem dX12_drop_9 : decode cX12_drop 9 = .ok (.ireturn, 1) := by decide +kernel
theorem dX12_drop_10 : decode cX12_drop 10 = .ok (.aload_n 0, 1) := by decide +kernel
theorem dX12_drop_11 : decode cX12_drop 11 = .ok (.getfield 7, 3) := by decide +kernel
theorem dX12_drop_14 : decode cX12_drop 14 = .ok (.sipush 141, 3) := by decide +kernel
theorem dX12_drop_17 : decode cX12_drop 17 = .ok (.iaload, 1) := by decide +kernel
theorem dX12_drop_18 : decode cX12_drop 18 = .ok (.iconst 1, 1) := by decide +kernel
theorem dX12_drop_19 : decode cX12_drop 19 = .ok (.if_icmp .ne 6, 3) := by decide +kernel
theorem dX12_drop_22 : decode cX12_drop 22 = .ok (.bipush (-2), 2) := by decide +kernel
theorem dX12_drop_24 : decode cX12_drop 24 = .ok (.ireturn, 1) := by decide +kernel
theorem dX12_drop_25 : decode cX12_drop 25 = .ok (.aload_n 0, 1) := by decide +kernel
theorem dX12_drop_26 : decode cX12_drop 26 = .ok (.invokevirtual 124, 3) := by decide +kernel
theorem dX12_drop_29 : decode cX12_drop 29 = .ok (.aload_n 0, 1) := by decide +kernel
theorem dX12_drop_30 : decode cX12_drop 30 = .ok (.getfield 7, 3) := by decide +kernel
theorem dX12_drop_33 : decode cX12_drop 33 = .ok (.sipush 141, 3) := by decide +kernel
theorem dX12_drop_36 : decode cX12_drop 36 = .ok (.dup2, 1) := by decide +kernel
theorem dX12_drop_37 : decode cX12_drop 37 = .ok (.iaload, 1) := by decide +kernel
theorem dX12_drop_38 : decode cX12_drop 38 = .ok (.iconst 1, 1) := by decide +kernel
theorem dX12_drop_39 : decode cX12_drop 39 = .ok (.isub, 1) := by decide +kernel
theorem dX12_drop_40 : decode cX12_drop 40 = .ok (.iastore, 1) := by decide +kernel
theorem dX12_drop_41 : decode cX12_drop 41 = .ok (.iload_n 1, 1) := by decide +kernel
theorem dX12_drop_42 : decode cX12_drop 42 = .ok (.istore_n 2, 1) := by decide +kernel
theorem dX12_drop_43 : decode cX12_drop 43 = .ok (.iload_n 2, 1) := by decide +kernel
theorem dX12_drop_44 : decode cX12_drop 44 = .ok (.aload_n 0, 1) := by decide +kernel
theorem dX12_drop_45 : decode cX12_drop 45 = .ok (.getfield 7, 3) := by decide +kernel
theorem dX12_drop_48 : decode cX12_drop 48 = .ok (.sipush 141, 3) := by decide +kernel
theorem dX12_drop_51 : decode cX12_drop 51 = .ok (.iaload, 1) := by decide +kernel
theorem dX12_drop_52 : decode cX12_drop 52 = .ok (.if_icmp .ge 51, 3) := by decide +kernel
theorem dX12_drop_55 : decode cX12_drop 55 = .ok (.aload_n 0, 1) := by decide +kernel
theorem dX12_drop_56 : decode cX12_drop 56 = .ok (.getfield 7, 3) := by decide +kernel
theorem dX12_drop_59 : decode cX12_drop 59 = .ok (.bipush 121, 2) := by decide +kernel
theorem dX12_drop_61 : decode cX12_drop 61 = .ok (.iload_n 2, 1) := by decide +kernel
theorem dX12_drop_62 : decode cX12_drop 62 = .ok (.iadd, 1) := by decide +kernel
theorem dX12_drop_63 : decode cX12_drop 63 = .ok (.aload_n 0, 1) := by decide +kernel
theorem dX12_drop_64 : decode cX12_drop 64 = .ok (.getfield 7, 3) := by decide +kernel
theorem dX12_drop_67 : decode cX12_drop 67 = .ok (.bipush 121, 2) := by decide +kernel
theorem dX12_drop_69 : decode cX12_drop 69 = .ok (.iload_n 2, 1) := by decide +kernel
theorem dX12_drop_70 : decode cX12_drop 70 = .ok (.iadd, 1) := by decide +kernel
theorem dX12_drop_71 : decode cX12_drop 71 = .ok (.iconst 1, 1) := by decide +kernel
theorem dX12_drop_72 : decode cX12_drop 72 = .ok (.iadd, 1) := by decide +kernel
theorem dX12_drop_73 : decode cX12_drop 73 = .ok (.iaload, 1) := by decide +kernel
theorem dX12_drop_74 : decode cX12_drop 74 = .ok (.iastore, 1) := by decide +kernel
theorem dX12_drop_75 : decode cX12_drop 75 = .ok (.aload_n 0, 1) := by decide +kernel
theorem dX12_drop_76 : decode cX12_drop 76 = .ok (.getfield 7, 3) := by decide +kernel
theorem dX12_drop_79 : decode cX12_drop 79 = .ok (.sipush 131, 3) := by decide +kernel
theorem dX12_drop_82 : decode cX12_drop 82 = .ok (.iload_n 2, 1) := by decide +kernel
theorem dX12_drop_83 : decode cX12_drop 83 = .ok (.iadd, 1) := by decide +kernel
theorem dX12_drop_84 : decode cX12_drop 84 = .ok (.aload_n 0, 1) := by decide +kernel
theorem dX12_drop_85 : decode cX12_drop 85 = .ok (.getfield 7, 3) := by decide +kernel
theorem dX12_drop_88 : decode cX12_drop 88 = .ok (.sipush 131, 3) := by decide +kernel
theorem dX12_drop_91 : decode cX12_drop 91 = .ok (.iload_n 2, 1) := by decide +kernel
theorem dX12_drop_92 : decode cX12_drop 92 = .ok (.iadd, 1) := by decide +kernel
theorem dX12_drop_93 : decode cX12_drop 93 = .ok (.iconst 1, 1) := by decide +kernel
theorem dX12_drop_94 : decode cX12_drop 94 = .ok (.iadd, 1) := by decide +kernel
theorem dX12_drop_95 : decode cX12_drop 95 = .ok (.iaload, 1) := by decide +kernel
theorem dX12_drop_96 : decode cX12_drop 96 = .ok (.iastore, 1) := by decide +kernel
theorem dX12_drop_97 : decode cX12_drop 97 = .ok (.iinc 2 1, 3) := by decide +kernel
theorem dX12_drop_100 : decode cX12_drop 100 = .ok (.goto (-57), 3) := by decide +kernel
theorem dX12_drop_103 : decode cX12_drop 103 = .ok (.aload_n 0, 1) := by decide +kernel
theorem dX12_drop_104 : decode cX12_drop 104 = .ok (.getfield 7, 3) := by decide +kernel
theorem dX12_drop_107 : decode cX12_drop 107 = .ok (.sipush 141, 3) := by decide +kernel
theorem dX12_drop_110 : decode cX12_drop 110 = .ok (.iaload, 1) := by decide +kernel
theorem dX12_drop_111 : decode cX12_drop 111 = .ok (.ireturn, 1) := by decide +kernel
theorem dX12_measure_0 : decode cX12_measure 0 = .ok (.iload_n 1, 1) := by decide +kernel
theorem dX12_measure_1 : decode cX12_measure 1 = .ok (.iconst 0, 1) := by decide +kernel
theorem dX12_measure_2 : decode cX12_measure 2 = .ok (.iconst 2, 1) := by decide +kernel
theorem dX12_measure_3 : decode cX12_measure 3 = .ok (.invokestatic 58, 3) := by decide +kernel
theorem dX12_measure_6 : decode cX12_measure 6 = .ok (.ifCond .eq 13, 3) := by decide +kernel
theorem dX12_measure_9 : decode cX12_measure 9 = .ok (.iload_n 2, 1) := by decide +kernel
theorem dX12_measure_10 : decode cX12_measure 10 = .ok (.iconst 1, 1) := by decide +kernel
theorem dX12_measure_11 : decode cX12_measure 11 = .ok (.bipush 99, 2) := by decide +kernel
theorem dX12_measure_13 : decode cX12_measure 13 = .ok (.invokestatic 58, 3) := by decide +kernel
theorem dX12_measure_16 : decode cX12_measure 16 = .ok (.ifCond .ne 5, 3) := by decide +kernel
theorem dX12_measure_19 : decode cX12_measure 19 = .ok (.iconst (-1), 1) := by decide +kernel
theorem dX12_measure_20 : decode cX12_measure 20 = .ok (.ireturn, 1) := by decide +kernel
theorem dX12_measure_21 : decode cX12_measure 21 = .ok (.aload_n 0, 1) := by decide +kernel
theorem dX12_measure_22 : decode cX12_measure 22 = .ok (.getfield 7, 3) := by decide +kernel
theorem dX12_measure_25 : decode cX12_measure 25 = .ok (.sipush 142, 3) := by decide +kernel
theorem dX12_measure_28 : decode cX12_measure 28 = .ok (.iaload, 1) := by decide +kernel
theorem dX12_measure_29 : decode cX12_measure 29 = .ok (.iload_n 1, 1) := by decide +kernel
theorem dX12_measure_30 : decode cX12_measure 30 = .ok (.if_icmp .ne 18, 3) := by decide +kernel
theorem dX12_measure_33 : decode cX12_measure 33 = .ok (.aload_n 0, 1) := by decide +kernel
theorem dX12_measure_34 : decode cX12_measure 34 = .ok (.getfield 7, 3) := by decide +kernel
theorem dX12_measure_37 : decode cX12_measure 37 = .ok (.sipush 143, 3) := by decide +kernel
theorem dX12_measure_40 : decode cX12_measure 40 = .ok (.iaload, 1) := by decide +kernel
theorem dX12_measure_41 : decode cX12_measure 41 = .ok (.iload_n 2, 1) := by decide +kernel
theorem dX12_measure_42 : decode cX12_measure 42 = .ok (.if_icmp .ne 6, 3) := by decide +kernel
theorem dX12_measure_45 : decode cX12_measure 45 = .ok (.bipush (-2), 2) := by decide +kernel
theorem dX12_measure_47 : decode cX12_measure 47 = .ok (.ireturn, 1) := by decide +kernel
theorem dX12_measure_48 : decode cX12_measure 48 = .ok (.aload_n 0, 1) := by decide +kernel
theorem dX12_measure_49 : decode cX12_measure 49 = .ok (.invokevirtual 124, 3) := by decide +kernel
theorem dX12_measure_52 : decode cX12_measure 52 = .ok (.bipush 100, 2) := by decide +kernel
theorem dX12_measure_54 : decode cX12_measure 54 = .ok (.aload_n 0, 1) := by decide +kernel
theorem dX12_measure_55 : decode cX12_measure 55 = .ok (.getfield 7, 3) := by decide +kernel
theorem dX12_measure_58 : decode cX12_measure 58 = .ok (.sipush 142, 3) := by decide +kernel
theorem dX12_measure_61 : decode cX12_measure 61 = .ok (.iaload, 1) := by decide +kernel
theorem dX12_measure_62 : decode cX12_measure 62 = .ok (.imul, 1) := by decide +kernel
theorem dX12_measure_63 : decode cX12_measure 63 = .ok (.aload_n 0, 1) := by decide +kernel
theorem dX12_measure_64 : decode cX12_measure 64 = .ok (.getfield 7, 3) := by decide +kernel
theorem dX12_measure_67 : decode cX12_measure 67 = .ok (.sipush 143, 3) := by decide +kernel
theorem dX12_measure_70 : decode cX12_measure 70 = .ok (.iaload, 1) := by decide +kernel
theorem dX12_measure_71 : decode cX12_measure 71 = .ok (.iadd, 1) := by decide +kernel
theorem dX12_measure_72 : decode cX12_measure 72 = .ok (.istore_n 3, 1) := by decide +kernel
theorem dX12_measure_73 : decode cX12_measure 73 = .ok (.aload_n 0, 1) := by decide +kernel
theorem dX12_measure_74 : decode cX12_measure 74 = .ok (.getfield 7, 3) := by decide +kernel
theorem dX12_measure_77 : decode cX12_measure 77 = .ok (.sipush 142, 3) := by decide +kernel
theorem dX12_measure_80 : decode cX12_measure 80 = .ok (.iload_n 1, 1) := by decide +kernel
theorem dX12_measure_81 : decode cX12_measure 81 = .ok (.iastore, 1) := by decide +kernel
theorem dX12_measure_82 : decode cX12_measure 82 = .ok (.aload_n 0, 1) := by decide +kernel
theorem dX12_measure_83 : decode cX12_measure 83 = .ok (.getfield 7, 3) := by decide +kernel
theorem dX12_measure_86 : decode cX12_measure 86 = .ok (.sipush 143, 3) := by decide +kernel
theorem dX12_measure_89 : decode cX12_measure 89 = .ok (.iload_n 2, 1) := by decide +kernel
theorem dX12_measure_90 : decode cX12_measure 90 = .ok (.iastore, 1) := by decide +kernel
theorem dX12_measure_91 : decode cX12_measure 91 = .ok (.iload_n 3, 1) := by decide +kernel
theorem dX12_measure_92 : decode cX12_measure 92 = .ok (.ireturn, 1) := by decide +kernel
theorem dX12_apart_0 : decode cX12_apart 0 = .ok (.iload_n 1, 1) := by decide +kernel
theorem dX12_apart_1 : decode cX12_apart 1 = .ok (.iload_n 3, 1) := by decide +kernel
theorem dX12_apart_2 : decode cX12_apart 2 = .ok (.if_icmp .ge 9, 3) := by decide +kernel
theorem dX12_apart_5 : decode cX12_apart 5 = .ok (.iload_n 3, 1) := by decide +kernel
theorem dX12_apart_6 : decode cX12_apart 6 = .ok (.iload_n 1, 1) := by decide +kernel
theorem dX12_apart_7 : decode cX12_apart 7 = .ok (.isub, 1) := by decide +kernel
theorem dX12_apart_8 : decode cX12_apart 8 = .ok (.goto 6, 3) := by decide +kernel
theorem dX12_apart_11 : decode cX12_apart 11 = .ok (.iload_n 1, 1) := by decide +kernel
theorem dX12_apart_12 : decode cX12_apart 12 = .ok (.iload_n 3, 1) := by decide +kernel
theorem dX12_apart_13 : decode cX12_apart 13 = .ok (.isub, 1) := by decide +kernel
theorem dX12_apart_14 : decode cX12_apart 14 = .ok (.istore 5, 2) := by decide +kernel
theorem dX12_apart_16 : decode cX12_apart 16 = .ok (.iload_n 2, 1) := by decide +kernel
theorem dX12_apart_17 : decode cX12_apart 17 = .ok (.iload 4, 2) := by decide +kernel
theorem dX12_apart_19 : decode cX12_apart 19 = .ok (.if_icmp .ge 10, 3) := by decide +kernel
theorem dX12_apart_22 : decode cX12_apart 22 = .ok (.iload 4, 2) := by decide +kernel
theorem dX12_apart_24 : decode cX12_apart 24 = .ok (.iload_n 2, 1) := by decide +kernel
theorem dX12_apart_25 : decode cX12_apart 25 = .ok (.isub, 1) := by decide +kernel
theorem dX12_apart_26 : decode cX12_apart 26 = .ok (.goto 7, 3) := by decide +kernel
theorem dX12_apart_29 : decode cX12_apart 29 = .ok (.iload_n 2, 1) := by decide +kernel
theorem dX12_apart_30 : decode cX12_apart 30 = .ok (.iload 4, 2) := by decide +kernel
theorem dX12_apart_32 : decode cX12_apart 32 = .ok (.isub, 1) := by decide +kernel
theorem dX12_apart_33 : decode cX12_apart 33 = .ok (.istore 6, 2) := by decide +kernel
theorem dX12_apart_35 : decode cX12_apart 35 = .ok (.iload 5, 2) := by decide +kernel
theorem dX12_apart_37 : decode cX12_apart 37 = .ok (.iload 6, 2) := by decide +kernel
theorem dX12_apart_39 : decode cX12_apart 39 = .ok (.if_icmp .le 8, 3) := by decide +kernel
theorem dX12_apart_42 : decode cX12_apart 42 = .ok (.iload 5, 2) := by decide +kernel
theorem dX12_apart_44 : decode cX12_apart 44 = .ok (.goto 5, 3) := by decide +kernel
theorem dX12_apart_47 : decode cX12_apart 47 = .ok (.iload 6, 2) := by decide +kernel
theorem dX12_apart_49 : decode cX12_apart 49 = .ok (.istore 7, 2) := by decide +kernel
theorem dX12_apart_51 : decode cX12_apart 51 = .ok (.aload_n 0, 1) := by decide +kernel
theorem dX12_apart_52 : decode cX12_apart 52 = .ok (.getfield 7, 3) := by decide +kernel
theorem dX12_apart_55 : decode cX12_apart 55 = .ok (.sipush 142, 3) := by decide +kernel
theorem dX12_apart_58 : decode cX12_apart 58 = .ok (.iaload, 1) := by decide +kernel
theorem dX12_apart_59 : decode cX12_apart 59 = .ok (.ifCond .ne 11, 3) := by decide +kernel
theorem dX12_apart_62 : decode cX12_apart 62 = .ok (.iload 5, 2) := by decide +kernel
theorem dX12_apart_64 : decode cX12_apart 64 = .ok (.iload 6, 2) := by decide +kernel
theorem dX12_apart_66 : decode cX12_apart 66 = .ok (.iadd, 1) := by decide +kernel
theorem dX12_apart_67 : decode cX12_apart 67 = .ok (.goto 33, 3) := by decide +kernel
theorem dX12_apart_70 : decode cX12_apart 70 = .ok (.aload_n 0, 1) := by decide +kernel
theorem dX12_apart_71 : decode cX12_apart 71 = .ok (.getfield 7, 3) := by decide +kernel
theorem dX12_apart_74 : decode cX12_apart 74 = .ok (.sipush 142, 3) := by decide +kernel
theorem dX12_apart_77 : decode cX12_apart 77 = .ok (.iaload, 1) := by decide +kernel
theorem dX12_apart_78 : decode cX12_apart 78 = .ok (.iconst 1, 1) := by decide +kernel
theorem dX12_apart_79 : decode cX12_apart 79 = .ok (.if_icmp .ne 8, 3) := by decide +kernel
theorem dX12_apart_82 : decode cX12_apart 82 = .ok (.iload 7, 2) := by decide +kernel
theorem dX12_apart_84 : decode cX12_apart 84 = .ok (.goto 16, 3) := by decide +kernel
theorem dX12_apart_87 : decode cX12_apart 87 = .ok (.iconst 3, 1) := by decide +kernel
theorem dX12_apart_88 : decode cX12_apart 88 = .ok (.iload 7, 2) := by decide +kernel
theorem dX12_apart_90 : decode cX12_apart 90 = .ok (.imul, 1) := by decide +kernel
theorem dX12_apart_91 : decode cX12_apart 91 = .ok (.iload 5, 2) := by decide +kernel
theorem dX12_apart_93 : decode cX12_apart 93 = .ok (.iadd, 1) := by decide +kernel
theorem dX12_apart_94 : decode cX12_apart 94 = .ok (.iload 6, 2) := by decide +kernel
theorem dX12_apart_96 : decode cX12_apart 96 = .ok (.iadd, 1) := by decide +kernel
theorem dX12_apart_97 : decode cX12_apart 97 = .ok (.iload 7, 2) := by decide +kernel
theorem dX12_apart_99 : decode cX12_apart 99 = .ok (.isub, 1) := by decide +kernel
theorem dX12_apart_100 : decode cX12_apart 100 = .ok (.ireturn, 1) := by decide +kernel
theorem dX12_nearestOf_0 : decode cX12_nearestOf 0 = .ok (.bipush (-4), 2) := by decide +kernel
theorem dX12_nearestOf_2 : decode cX12_nearestOf 2 = .ok (.istore_n 3, 1) := by decide +kernel
theorem dX12_nearestOf_3 : decode cX12_nearestOf 3 = .ok (.iconst 0, 1) := by decide +kernel
theorem dX12_nearestOf_4 : decode cX12_nearestOf 4 = .ok (.istore 4, 2) := by decide +kernel
theorem dX12_nearestOf_6 : decode cX12_nearestOf 6 = .ok (.iconst 0, 1) := by decide +kernel
theorem dX12_nearestOf_7 : decode cX12_nearestOf 7 = .ok (.istore 5, 2) := by decide +kernel
theorem dX12_nearestOf_9 : decode cX12_nearestOf 9 = .ok (.iload 5, 2) := by decide +kernel
theorem dX12_nearestOf_11 : decode cX12_nearestOf 11 = .ok (.bipush 121, 2) := by decide +kernel
theorem dX12_nearestOf_13 : decode cX12_nearestOf 13 = .ok (.if_icmp .ge 58, 3) := by decide +kernel
theorem dX12_nearestOf_16 : decode cX12_nearestOf 16 = .ok (.aload_n 0, 1) := by decide +kernel
theorem dX12_nearestOf_17 : decode cX12_nearestOf 17 = .ok (.iload_n 1, 1) := by decide +kernel
theorem dX12_nearestOf_18 : decode cX12_nearestOf 18 = .ok (.iload_n 2, 1) := by decide +kernel
theorem dX12_nearestOf_19 : decode cX12_nearestOf 19 = .ok (.iload 5, 2) := by decide +kernel
theorem dX12_nearestOf_21 : decode cX12_nearestOf 21 = .ok (.bipush 11, 2) := by decide +kernel
theorem dX12_nearestOf_23 : decode cX12_nearestOf 23 = .ok (.irem, 1) := by decide +kernel
theorem dX12_nearestOf_24 : decode cX12_nearestOf 24 = .ok (.iload 5, 2) := by decide +kernel
theorem dX12_nearestOf_26 : decode cX12_nearestOf 26 = .ok (.bipush 11, 2) := by decide +kernel
theorem dX12_nearestOf_28 : decode cX12_nearestOf 28 = .ok (.idiv, 1) := by decide +kernel
theorem dX12_nearestOf_29 : decode cX12_nearestOf 29 = .ok (.invokevirtual 130, 3) := by decide +kernel
theorem dX12_nearestOf_32 : decode cX12_nearestOf 32 = .ok (.istore 6, 2) := by decide +kernel
theorem dX12_nearestOf_34 : decode cX12_nearestOf 34 = .ok (.aload_n 0, 1) := by decide +kernel
theorem dX12_nearestOf_35 : decode cX12_nearestOf 35 = .ok (.getfield 7, 3) := by decide +kernel
theorem dX12_nearestOf_38 : decode cX12_nearestOf 38 = .ok (.iload 5, 2) := by decide +kernel
theorem dX12_nearestOf_40 : decode cX12_nearestOf 40 = .ok (.iaload, 1) := by decide +kernel
theorem dX12_nearestOf_41 : decode cX12_nearestOf 41 = .ok (.iconst 1, 1) := by decide +kernel
theorem dX12_nearestOf_42 : decode cX12_nearestOf 42 = .ok (.if_icmp .ne 23, 3) := by decide +kernel
theorem dX12_nearestOf_45 : decode cX12_nearestOf 45 = .ok (.iload_n 3, 1) := by decide +kernel
theorem dX12_nearestOf_46 : decode cX12_nearestOf 46 = .ok (.bipush (-4), 2) := by decide +kernel
theorem dX12_nearestOf_48 : decode cX12_nearestOf 48 = .ok (.if_icmp .eq 10, 3) := by decide +kernel
theorem dX12_nearestOf_51 : decode cX12_nearestOf 51 = .ok (.iload 6, 2) := by decide +kernel
theorem dX12_nearestOf_53 : decode cX12_nearestOf 53 = .ok (.iload 4, 2) := by decide +kernel
theorem dX12_nearestOf_55 : decode cX12_nearestOf 55 = .ok (.if_icmp .ge 10, 3) := by decide +kernel
theorem dX12_nearestOf_58 : decode cX12_nearestOf 58 = .ok (.iload 5, 2) := by decide +kernel
theorem dX12_nearestOf_60 : decode cX12_nearestOf 60 = .ok (.istore_n 3, 1) := by decide +kernel
theorem dX12_nearestOf_61 : decode cX12_nearestOf 61 = .ok (.iload 6, 2) := by decide +kernel
theorem dX12_nearestOf_63 : decode cX12_nearestOf 63 = .ok (.istore 4, 2) := by decide +kernel
theorem dX12_nearestOf_65 : decode cX12_nearestOf 65 = .ok (.iinc 5 1, 3) := by decide +kernel
theorem dX12_nearestOf_68 : decode cX12_nearestOf 68 = .ok (.goto (-59), 3) := by decide +kernel
theorem dX12_nearestOf_71 : decode cX12_nearestOf 71 = .ok (.iload_n 3, 1) := by decide +kernel
theorem dX12_nearestOf_72 : decode cX12_nearestOf 72 = .ok (.ireturn, 1) := by decide +kernel
theorem dX12_farOf_0 : decode cX12_farOf 0 = .ok (.aload_n 0, 1) := by decide +kernel
theorem dX12_farOf_1 : decode cX12_farOf 1 = .ok (.iload_n 1, 1) := by decide +kernel
theorem dX12_farOf_2 : decode cX12_farOf 2 = .ok (.iload_n 2, 1) := by decide +kernel
theorem dX12_farOf_3 : decode cX12_farOf 3 = .ok (.invokevirtual 134, 3) := by decide +kernel
theorem dX12_farOf_6 : decode cX12_farOf 6 = .ok (.istore_n 3, 1) := by decide +kernel
theorem dX12_farOf_7 : decode cX12_farOf 7 = .ok (.iload_n 3, 1) := by decide +kernel
theorem dX12_farOf_8 : decode cX12_farOf 8 = .ok (.bipush (-4), 2) := by decide +kernel
theorem dX12_farOf_10 : decode cX12_farOf 10 = .ok (.if_icmp .ne 14, 3) := by decide +kernel
theorem dX12_farOf_13 : decode cX12_farOf 13 = .ok (.aload_n 0, 1) := by decide +kernel
theorem dX12_farOf_14 : decode cX12_farOf 14 = .ok (.getfield 7, 3) := by decide +kernel
theorem dX12_farOf_17 : decode cX12_farOf 17 = .ok (.sipush 143, 3) := by decide +kernel
theorem dX12_farOf_20 : decode cX12_farOf 20 = .ok (.iaload, 1) := by decide +kernel
theorem dX12_farOf_21 : decode cX12_farOf 21 = .ok (.goto 17, 3) := by decide +kernel
theorem dX12_farOf_24 : decode cX12_farOf 24 = .ok (.aload_n 0, 1) := by decide +kernel
theorem dX12_farOf_25 : decode cX12_farOf 25 = .ok (.iload_n 1, 1) := by decide +kernel
theorem dX12_farOf_26 : decode cX12_farOf 26 = .ok (.iload_n 2, 1) := by decide +kernel
theorem dX12_farOf_27 : decode cX12_farOf 27 = .ok (.iload_n 3, 1) := by decide +kernel
theorem dX12_farOf_28 : decode cX12_farOf 28 = .ok (.bipush 11, 2) := by decide +kernel
theorem dX12_farOf_30 : decode cX12_farOf 30 = .ok (.irem, 1) := by decide +kernel
theorem dX12_farOf_31 : decode cX12_farOf 31 = .ok (.iload_n 3, 1) := by decide +kernel
theorem dX12_farOf_32 : decode cX12_farOf 32 = .ok (.bipush 11, 2) := by decide +kernel
theorem dX12_farOf_34 : decode cX12_farOf 34 = .ok (.idiv, 1) := by decide +kernel
theorem dX12_farOf_35 : decode cX12_farOf 35 = .ok (.invokevirtual 130, 3) := by decide +kernel
theorem dX12_farOf_38 : decode cX12_farOf 38 = .ok (.istore 4, 2) := by decide +kernel
theorem dX12_farOf_40 : decode cX12_farOf 40 = .ok (.iload 4, 2) := by decide +kernel
theorem dX12_farOf_42 : decode cX12_farOf 42 = .ok (.aload_n 0, 1) := by decide +kernel
theorem dX12_farOf_43 : decode cX12_farOf 43 = .ok (.getfield 7, 3) := by decide +kernel
theorem dX12_farOf_46 : decode cX12_farOf 46 = .ok (.sipush 143, 3) := by decide +kernel
theorem dX12_farOf_49 : decode cX12_farOf 49 = .ok (.iaload, 1) := by decide +kernel
theorem dX12_farOf_50 : decode cX12_farOf 50 = .ok (.if_icmp .ge 8, 3) := by decide +kernel
theorem dX12_farOf_53 : decode cX12_farOf 53 = .ok (.iload 4, 2) := by decide +kernel
theorem dX12_farOf_55 : decode cX12_farOf 55 = .ok (.goto 11, 3) := by decide +kernel
theorem dX12_farOf_58 : decode cX12_farOf 58 = .ok (.aload_n 0, 1) := by decide +kernel
theorem dX12_farOf_59 : decode cX12_farOf 59 = .ok (.getfield 7, 3) := by decide +kernel
theorem dX12_farOf_62 : decode cX12_farOf 62 = .ok (.sipush 143, 3) := by decide +kernel
theorem dX12_farOf_65 : decode cX12_farOf 65 = .ok (.iaload, 1) := by decide +kernel
theorem dX12_farOf_66 : decode cX12_farOf 66 = .ok (.ireturn, 1) := by decide +kernel
theorem dX12_cell_0 : decode cX12_cell 0 = .ok (.aload_n 0, 1) := by decide +kernel
theorem dX12_cell_1 : decode cX12_cell 1 = .ok (.iload_n 1, 1) := by decide +kernel
theorem dX12_cell_2 : decode cX12_cell 2 = .ok (.iload_n 2, 1) := by decide +kernel
theorem dX12_cell_3 : decode cX12_cell 3 = .ok (.invokevirtual 120, 3) := by decide +kernel
theorem dX12_cell_6 : decode cX12_cell 6 = .ok (.ifCond .eq 16, 3) := by decide +kernel
theorem dX12_cell_9 : decode cX12_cell 9 = .ok (.aload_n 0, 1) := by decide +kernel
theorem dX12_cell_10 : decode cX12_cell 10 = .ok (.getfield 7, 3) := by decide +kernel
theorem dX12_cell_13 : decode cX12_cell 13 = .ok (.iload_n 1, 1) := by decide +kernel
theorem dX12_cell_14 : decode cX12_cell 14 = .ok (.iload_n 2, 1) := by decide +kernel
theorem dX12_cell_15 : decode cX12_cell 15 = .ok (.invokestatic 50, 3) := by decide +kernel
theorem dX12_cell_18 : decode cX12_cell 18 = .ok (.iaload, 1) := by decide +kernel
theorem dX12_cell_19 : decode cX12_cell 19 = .ok (.goto 4, 3) := by decide +kernel
theorem dX12_cell_22 : decode cX12_cell 22 = .ok (.iconst (-1), 1) := by decide +kernel
theorem dX12_cell_23 : decode cX12_cell 23 = .ok (.ireturn, 1) := by decide +kernel
theorem dX12_far_0 : decode cX12_far 0 = .ok (.aload_n 0, 1) := by decide +kernel
theorem dX12_far_1 : decode cX12_far 1 = .ok (.iload_n 1, 1) := by decide +kernel
theorem dX12_far_2 : decode cX12_far 2 = .ok (.iload_n 2, 1) := by decide +kernel
theorem dX12_far_3 : decode cX12_far 3 = .ok (.invokevirtual 120, 3) := by decide +kernel
theorem dX12_far_6 : decode cX12_far 6 = .ok (.ifCond .eq 12, 3) := by decide +kernel
theorem dX12_far_9 : decode cX12_far 9 = .ok (.aload_n 0, 1) := by decide +kernel
theorem dX12_far_10 : decode cX12_far 10 = .ok (.iload_n 1, 1) := by decide +kernel
theorem dX12_far_11 : decode cX12_far 11 = .ok (.iload_n 2, 1) := by decide +kernel
theorem dX12_far_12 : decode cX12_far 12 = .ok (.invokevirtual 137, 3) := by decide +kernel
theorem dX12_far_15 : decode cX12_far 15 = .ok (.goto 4, 3) := by decide +kernel
theorem dX12_far_18 : decode cX12_far 18 = .ok (.iconst (-1), 1) := by decide +kernel
theorem dX12_far_19 : decode cX12_far 19 = .ok (.ireturn, 1) := by decide +kernel
theorem dX12_nearest_0 : decode cX12_nearest 0 = .ok (.aload_n 0, 1) := by decide +kernel
theorem dX12_nearest_1 : decode cX12_nearest 1 = .ok (.iload_n 1, 1) := by decide +kernel
theorem dX12_nearest_2 : decode cX12_nearest 2 = .ok (.iload_n 2, 1) := by decide +kernel
theorem dX12_nearest_3 : decode cX12_nearest 3 = .ok (.invokevirtual 120, 3) := by decide +kernel
theorem dX12_nearest_6 : decode cX12_nearest 6 = .ok (.ifCond .ne 5, 3) := by decide +kernel
theorem dX12_nearest_9 : decode cX12_nearest 9 = .ok (.iconst (-1), 1) := by decide +kernel
theorem dX12_nearest_10 : decode cX12_nearest 10 = .ok (.ireturn, 1) := by decide +kernel
theorem dX12_nearest_11 : decode cX12_nearest 11 = .ok (.aload_n 0, 1) := by decide +kernel
theorem dX12_nearest_12 : decode cX12_nearest 12 = .ok (.iload_n 1, 1) := by decide +kernel
theorem dX12_nearest_13 : decode cX12_nearest 13 = .ok (.iload_n 2, 1) := by decide +kernel
theorem dX12_nearest_14 : decode cX12_nearest 14 = .ok (.invokevirtual 134, 3) := by decide +kernel
theorem dX12_nearest_17 : decode cX12_nearest 17 = .ok (.istore_n 3, 1) := by decide +kernel
theorem dX12_nearest_18 : decode cX12_nearest 18 = .ok (.iload_n 3, 1) := by decide +kernel
theorem dX12_nearest_19 : decode cX12_nearest 19 = .ok (.bipush (-4), 2) := by decide +kernel
theorem dX12_nearest_21 : decode cX12_nearest 21 = .ok (.if_icmp .ne 8, 3) := by decide +kernel
theorem dX12_nearest_24 : decode cX12_nearest 24 = .ok (.bipush (-4), 2) := by decide +kernel
theorem dX12_nearest_26 : decode cX12_nearest 26 = .ok (.goto 15, 3) := by decide +kernel
theorem dX12_nearest_29 : decode cX12_nearest 29 = .ok (.bipush 100, 2) := by decide +kernel
theorem dX12_nearest_31 : decode cX12_nearest 31 = .ok (.iload_n 3, 1) := by decide +kernel
theorem dX12_nearest_32 : decode cX12_nearest 32 = .ok (.bipush 11, 2) := by decide +kernel
theorem dX12_nearest_34 : decode cX12_nearest 34 = .ok (.idiv, 1) := by decide +kernel
theorem dX12_nearest_35 : decode cX12_nearest 35 = .ok (.imul, 1) := by decide +kernel
theorem dX12_nearest_36 : decode cX12_nearest 36 = .ok (.iload_n 3, 1) := by decide +kernel
theorem dX12_nearest_37 : decode cX12_nearest 37 = .ok (.bipush 11, 2) := by decide +kernel
theorem dX12_nearest_39 : decode cX12_nearest 39 = .ok (.irem, 1) := by decide +kernel
theorem dX12_nearest_40 : decode cX12_nearest 40 = .ok (.iadd, 1) := by decide +kernel
theorem dX12_nearest_41 : decode cX12_nearest 41 = .ok (.ireturn, 1) := by decide +kernel
theorem dX12_rings_0 : decode cX12_rings 0 = .ok (.iload_n 1, 1) := by decide +kernel
theorem dX12_rings_1 : decode cX12_rings 1 = .ok (.iconst 0, 1) := by decide +kernel
theorem dX12_rings_2 : decode cX12_rings 2 = .ok (.bipush 99, 2) := by decide +kernel
theorem dX12_rings_4 : decode cX12_rings 4 = .ok (.invokestatic 58, 3) := by decide +kernel
theorem dX12_rings_7 : decode cX12_rings 7 = .ok (.ifCond .ne 5, 3) := by decide +kernel
theorem dX12_rings_10 : decode cX12_rings 10 = .ok (.iconst (-1), 1) := by decide +kernel
theorem dX12_rings_11 : decode cX12_rings 11 = .ok (.ireturn, 1) := by decide +kernel
theorem dX12_rings_12 : decode cX12_rings 12 = .ok (.iconst 0, 1) := by decide +kernel
theorem dX12_rings_13 : decode cX12_rings 13 = .ok (.istore_n 2, 1) := by decide +kernel
theorem dX12_rings_14 : decode cX12_rings 14 = .ok (.iconst 0, 1) := by decide +kernel
theorem dX12_rings_15 : decode cX12_rings 15 = .ok (.istore_n 3, 1) := by decide +kernel
theorem dX12_rings_16 : decode cX12_rings 16 = .ok (.iload_n 3, 1) := by decide +kernel
theorem dX12_rings_17 : decode cX12_rings 17 = .ok (.aload_n 0, 1) := by decide +kernel
theorem dX12_rings_18 : decode cX12_rings 18 = .ok (.getfield 47, 3) := by decide +kernel
theorem dX12_rings_21 : decode cX12_rings 21 = .ok (.if_icmp .ge 46, 3) := by decide +kernel
theorem dX12_rings_24 : decode cX12_rings 24 = .ok (.iconst 0, 1) := by decide +kernel
theorem dX12_rings_25 : decode cX12_rings 25 = .ok (.istore 4, 2) := by decide +kernel
theorem dX12_rings_27 : decode cX12_rings 27 = .ok (.iload 4, 2) := by decide +kernel
theorem dX12_rings_29 : decode cX12_rings 29 = .ok (.aload_n 0, 1) := by decide +kernel
theorem dX12_rings_30 : decode cX12_rings 30 = .ok (.getfield 44, 3) := by decide +kernel
theorem dX12_rings_33 : decode cX12_rings 33 = .ok (.if_icmp .ge 28, 3) := by decide +kernel
theorem dX12_rings_36 : decode cX12_rings 36 = .ok (.iload_n 2, 1) := by decide +kernel
theorem dX12_rings_37 : decode cX12_rings 37 = .ok (.aload_n 0, 1) := by decide +kernel
theorem dX12_rings_38 : decode cX12_rings 38 = .ok (.iload 4, 2) := by decide +kernel
theorem dX12_rings_40 : decode cX12_rings 40 = .ok (.iload_n 3, 1) := by decide +kernel
theorem dX12_rings_41 : decode cX12_rings 41 = .ok (.invokevirtual 137, 3) := by decide +kernel
theorem dX12_rings_44 : decode cX12_rings 44 = .ok (.iload_n 1, 1) := by decide +kernel
theorem dX12_rings_45 : decode cX12_rings 45 = .ok (.if_icmp .ne 7, 3) := by decide +kernel
theorem dX12_rings_48 : decode cX12_rings 48 = .ok (.iconst 1, 1) := by decide +kernel
theorem dX12_rings_49 : decode cX12_rings 49 = .ok (.goto 4, 3) := by decide +kernel
theorem dX12_rings_52 : decode cX12_rings 52 = .ok (.iconst 0, 1) := by decide +kernel
theorem dX12_rings_53 : decode cX12_rings 53 = .ok (.iadd, 1) := by decide +kernel
theorem dX12_rings_54 : decode cX12_rings 54 = .ok (.istore_n 2, 1) := by decide +kernel
theorem dX12_rings_55 : decode cX12_rings 55 = .ok (.iinc 4 1, 3) := by decide +kernel
theorem dX12_rings_58 : decode cX12_rings 58 = .ok (.goto (-31), 3) := by decide +kernel
theorem dX12_rings_61 : decode cX12_rings 61 = .ok (.iinc 3 1, 3) := by decide +kernel
theorem dX12_rings_64 : decode cX12_rings 64 = .ok (.goto (-48), 3) := by decide +kernel
theorem dX12_rings_67 : decode cX12_rings 67 = .ok (.iload_n 2, 1) := by decide +kernel
theorem dX12_rings_68 : decode cX12_rings 68 = .ok (.ireturn, 1) := by decide +kernel
theorem dX12_laysFars_0 : decode cX12_laysFars 0 = .ok (.iconst 0, 1) := by decide +kernel
theorem dX12_laysFars_1 : decode cX12_laysFars 1 = .ok (.istore_n 1, 1) := by decide +kernel
theorem dX12_laysFars_2 : decode cX12_laysFars 2 = .ok (.iload_n 1, 1) := by decide +kernel
theorem dX12_laysFars_3 : decode cX12_laysFars 3 = .ok (.aload_n 0, 1) := by decide +kernel
theorem dX12_laysFars_4 : decode cX12_laysFars 4 = .ok (.getfield 47, 3) := by decide +kernel
theorem dX12_laysFars_7 : decode cX12_laysFars 7 = .ok (.if_icmp .ge 41, 3) := by decide +kernel
theorem dX12_laysFars_10 : decode cX12_laysFars 10 = .ok (.iconst 0, 1) := by decide +kernel
theorem dX12_laysFars_11 : decode cX12_laysFars 11 = .ok (.istore_n 2, 1) := by decide +kernel
theorem dX12_laysFars_12 : decode cX12_laysFars 12 = .ok (.iload_n 2, 1) := by decide +kernel
theorem dX12_laysFars_13 : decode cX12_laysFars 13 = .ok (.aload_n 0, 1) := by decide +kernel
theorem dX12_laysFars_14 : decode cX12_laysFars 14 = .ok (.getfield 44, 3) := by decide +kernel
theorem dX12_laysFars_17 : decode cX12_laysFars 17 = .ok (.if_icmp .ge 25, 3) := by decide +kernel
theorem dX12_laysFars_20 : decode cX12_laysFars 20 = .ok (.aload_n 0, 1) := by decide +kernel
theorem dX12_laysFars_21 : decode cX12_laysFars 21 = .ok (.getfield 35, 3) := by decide +kernel
theorem dX12_laysFars_24 : decode cX12_laysFars 24 = .ok (.iload_n 2, 1) := by decide +kernel
theorem dX12_laysFars_25 : decode cX12_laysFars 25 = .ok (.iload_n 1, 1) := by decide +kernel
theorem dX12_laysFars_26 : decode cX12_laysFars 26 = .ok (.invokestatic 50, 3) := by decide +kernel
theorem dX12_laysFars_29 : decode cX12_laysFars 29 = .ok (.aload_n 0, 1) := by decide +kernel
theorem dX12_laysFars_30 : decode cX12_laysFars 30 = .ok (.iload_n 2, 1) := by decide +kernel
theorem dX12_laysFars_31 : decode cX12_laysFars 31 = .ok (.iload_n 1, 1) := by decide +kernel
theorem dX12_laysFars_32 : decode cX12_laysFars 32 = .ok (.invokevirtual 137, 3) := by decide +kernel
theorem dX12_laysFars_35 : decode cX12_laysFars 35 = .ok (.iastore, 1) := by decide +kernel
theorem dX12_laysFars_36 : decode cX12_laysFars 36 = .ok (.iinc 2 1, 3) := by decide +kernel
theorem dX12_laysFars_39 : decode cX12_laysFars 39 = .ok (.goto (-27), 3) := by decide +kernel
theorem dX12_laysFars_42 : decode cX12_laysFars 42 = .ok (.iinc 1 1, 3) := by decide +kernel
theorem dX12_laysFars_45 : decode cX12_laysFars 45 = .ok (.goto (-43), 3) := by decide +kernel
theorem dX12_laysFars_48 : decode cX12_laysFars 48 = .ok (.return_, 1) := by decide +kernel
theorem dX12_turn_0 : decode cX12_turn 0 = .ok (.iload_n 1, 1) := by decide +kernel
theorem dX12_turn_1 : decode cX12_turn 1 = .ok (.iconst 2, 1) := by decide +kernel
theorem dX12_turn_2 : decode cX12_turn 2 = .ok (.iconst 4, 1) := by decide +kernel
theorem dX12_turn_3 : decode cX12_turn 3 = .ok (.invokestatic 58, 3) := by decide +kernel
theorem dX12_turn_6 : decode cX12_turn 6 = .ok (.ifCond .eq 21, 3) := by decide +kernel
theorem dX12_turn_9 : decode cX12_turn 9 = .ok (.iload_n 2, 1) := by decide +kernel
theorem dX12_turn_10 : decode cX12_turn 10 = .ok (.iconst 0, 1) := by decide +kernel
theorem dX12_turn_11 : decode cX12_turn 11 = .ok (.iconst 3, 1) := by decide +kernel
theorem dX12_turn_12 : decode cX12_turn 12 = .ok (.invokestatic 58, 3) := by decide +kernel
theorem dX12_turn_15 : decode cX12_turn 15 = .ok (.ifCond .eq 12, 3) := by decide +kernel
theorem dX12_turn_18 : decode cX12_turn 18 = .ok (.iload_n 3, 1) := by decide +kernel
theorem dX12_turn_19 : decode cX12_turn 19 = .ok (.iconst 0, 1) := by decide +kernel
theorem dX12_turn_20 : decode cX12_turn 20 = .ok (.iconst 1, 1) := by decide +kernel
theorem dX12_turn_21 : decode cX12_turn 21 = .ok (.invokestatic 58, 3) := by decide +kernel
theorem dX12_turn_24 : decode cX12_turn 24 = .ok (.ifCond .ne 5, 3) := by decide +kernel
theorem dX12_turn_27 : decode cX12_turn 27 = .ok (.iconst (-1), 1) := by decide +kernel
theorem dX12_turn_28 : decode cX12_turn 28 = .ok (.ireturn, 1) := by decide +kernel
theorem dX12_turn_29 : decode cX12_turn 29 = .ok (.aload_n 0, 1) := by decide +kernel
theorem dX12_turn_30 : decode cX12_turn 30 = .ok (.iload_n 1, 1) := by decide +kernel
theorem dX12_turn_31 : decode cX12_turn 31 = .ok (.putfield 19, 3) := by decide +kernel
theorem dX12_turn_34 : decode cX12_turn 34 = .ok (.aload_n 0, 1) := by decide +kernel
theorem dX12_turn_35 : decode cX12_turn 35 = .ok (.iload_n 2, 1) := by decide +kernel
theorem dX12_turn_36 : decode cX12_turn 36 = .ok (.putfield 108, 3) := by decide +kernel
theorem dX12_turn_39 : decode cX12_turn 39 = .ok (.aload_n 0, 1) := by decide +kernel
theorem dX12_turn_40 : decode cX12_turn 40 = .ok (.iload_n 3, 1) := by decide +kernel
theorem dX12_turn_41 : decode cX12_turn 41 = .ok (.putfield 111, 3) := by decide +kernel
theorem dX12_turn_44 : decode cX12_turn 44 = .ok (.iconst 0, 1) := by decide +kernel
theorem dX12_turn_45 : decode cX12_turn 45 = .ok (.ireturn, 1) := by decide +kernel
theorem dX12_halved_0 : decode cX12_halved 0 = .ok (.iload_n 0, 1) := by decide +kernel
theorem dX12_halved_1 : decode cX12_halved 1 = .ok (.iload_n 1, 1) := by decide +kernel
theorem dX12_halved_2 : decode cX12_halved 2 = .ok (.imul, 1) := by decide +kernel
theorem dX12_halved_3 : decode cX12_halved 3 = .ok (.iconst 1, 1) := by decide +kernel
theorem dX12_halved_4 : decode cX12_halved 4 = .ok (.iadd, 1) := by decide +kernel
theorem dX12_halved_5 : decode cX12_halved 5 = .ok (.iconst 1, 1) := by decide +kernel
theorem dX12_halved_6 : decode cX12_halved 6 = .ok (.ishr, 1) := by decide +kernel
theorem dX12_halved_7 : decode cX12_halved 7 = .ok (.ireturn, 1) := by decide +kernel
theorem dX12_liesX_0 : decode cX12_liesX 0 = .ok (.iload 4, 2) := by decide +kernel
theorem dX12_liesX_2 : decode cX12_liesX 2 = .ok (.iconst 1, 1) := by decide +kernel
theorem dX12_liesX_3 : decode cX12_liesX 3 = .ok (.if_icmp .ne 16, 3) := by decide +kernel
theorem dX12_liesX_6 : decode cX12_liesX 6 = .ok (.aload_n 0, 1) := by decide +kernel
theorem dX12_liesX_7 : decode cX12_liesX 7 = .ok (.getfield 7, 3) := by decide +kernel
theorem dX12_liesX_10 : decode cX12_liesX 10 = .ok (.bipush 121, 2) := by decide +kernel
theorem dX12_liesX_12 : decode cX12_liesX 12 = .ok (.iload_n 1, 1) := by decide +kernel
theorem dX12_liesX_13 : decode cX12_liesX 13 = .ok (.iadd, 1) := by decide +kernel
theorem dX12_liesX_14 : decode cX12_liesX 14 = .ok (.iaload, 1) := by decide +kernel
theorem dX12_liesX_15 : decode cX12_liesX 15 = .ok (.ineg, 1) := by decide +kernel
theorem dX12_liesX_16 : decode cX12_liesX 16 = .ok (.goto 12, 3) := by decide +kernel
theorem dX12_liesX_19 : decode cX12_liesX 19 = .ok (.aload_n 0, 1) := by decide +kernel
theorem dX12_liesX_20 : decode cX12_liesX 20 = .ok (.getfield 7, 3) := by decide +kernel
theorem dX12_liesX_23 : decode cX12_liesX 23 = .ok (.bipush 121, 2) := by decide +kernel
theorem dX12_liesX_25 : decode cX12_liesX 25 = .ok (.iload_n 1, 1) := by decide +kernel
theorem dX12_liesX_26 : decode cX12_liesX 26 = .ok (.iadd, 1) := by decide +kernel
theorem dX12_liesX_27 : decode cX12_liesX 27 = .ok (.iaload, 1) := by decide +kernel
theorem dX12_liesX_28 : decode cX12_liesX 28 = .ok (.istore 5, 2) := by decide +kernel
theorem dX12_liesX_30 : decode cX12_liesX 30 = .ok (.aload_n 0, 1) := by decide +kernel
theorem dX12_liesX_31 : decode cX12_liesX 31 = .ok (.getfield 7, 3) := by decide +kernel
theorem dX12_liesX_34 : decode cX12_liesX 34 = .ok (.sipush 131, 3) := by decide +kernel
theorem dX12_liesX_37 : decode cX12_liesX 37 = .ok (.iload_n 1, 1) := by decide +kernel
theorem dX12_liesX_38 : decode cX12_liesX 38 = .ok (.iadd, 1) := by decide +kernel
theorem dX12_liesX_39 : decode cX12_liesX 39 = .ok (.iaload, 1) := by decide +kernel
theorem dX12_liesX_40 : decode cX12_liesX 40 = .ok (.istore 6, 2) := by decide +kernel
theorem dX12_liesX_42 : decode cX12_liesX 42 = .ok (.iload_n 3, 1) := by decide +kernel
theorem dX12_liesX_43 : decode cX12_liesX 43 = .ok (.ifCond .ne 8, 3) := by decide +kernel
theorem dX12_liesX_46 : decode cX12_liesX 46 = .ok (.iload 5, 2) := by decide +kernel
theorem dX12_liesX_48 : decode cX12_liesX 48 = .ok (.goto 27, 3) := by decide +kernel
theorem dX12_liesX_51 : decode cX12_liesX 51 = .ok (.iload_n 3, 1) := by decide +kernel
theorem dX12_liesX_52 : decode cX12_liesX 52 = .ok (.iconst 1, 1) := by decide +kernel
theorem dX12_liesX_53 : decode cX12_liesX 53 = .ok (.if_icmp .ne 9, 3) := by decide +kernel
theorem dX12_liesX_56 : decode cX12_liesX 56 = .ok (.iload 6, 2) := by decide +kernel
theorem dX12_liesX_58 : decode cX12_liesX 58 = .ok (.ineg, 1) := by decide +kernel
theorem dX12_liesX_59 : decode cX12_liesX 59 = .ok (.goto 16, 3) := by decide +kernel
theorem dX12_liesX_62 : decode cX12_liesX 62 = .ok (.iload_n 3, 1) := by decide +kernel
theorem dX12_liesX_63 : decode cX12_liesX 63 = .ok (.iconst 2, 1) := by decide +kernel
theorem dX12_liesX_64 : decode cX12_liesX 64 = .ok (.if_icmp .ne 9, 3) := by decide +kernel
theorem dX12_liesX_67 : decode cX12_liesX 67 = .ok (.iload 5, 2) := by decide +kernel
theorem dX12_liesX_69 : decode cX12_liesX 69 = .ok (.ineg, 1) := by decide +kernel
theorem dX12_liesX_70 : decode cX12_liesX 70 = .ok (.goto 5, 3) := by decide +kernel
theorem dX12_liesX_73 : decode cX12_liesX 73 = .ok (.iload 6, 2) := by decide +kernel
theorem dX12_liesX_75 : decode cX12_liesX 75 = .ok (.iload_n 2, 1) := by decide +kernel
theorem dX12_liesX_76 : decode cX12_liesX 76 = .ok (.invokestatic 140, 3) := by decide +kernel
theorem dX12_liesX_79 : decode cX12_liesX 79 = .ok (.ireturn, 1) := by decide +kernel
theorem dX12_liesY_0 : decode cX12_liesY 0 = .ok (.iload 4, 2) := by decide +kernel
theorem dX12_liesY_2 : decode cX12_liesY 2 = .ok (.iconst 1, 1) := by decide +kernel
theorem dX12_liesY_3 : decode cX12_liesY 3 = .ok (.if_icmp .ne 16, 3) := by decide +kernel
theorem dX12_liesY_6 : decode cX12_liesY 6 = .ok (.aload_n 0, 1) := by decide +kernel
theorem dX12_liesY_7 : decode cX12_liesY 7 = .ok (.getfield 7, 3) := by decide +kernel
theorem dX12_liesY_10 : decode cX12_liesY 10 = .ok (.bipush 121, 2) := by decide +kernel
theorem dX12_liesY_12 : decode cX12_liesY 12 = .ok (.iload_n 1, 1) := by decide +kernel
theorem dX12_liesY_13 : decode cX12_liesY 13 = .ok (.iadd, 1) := by decide +kernel
theorem dX12_liesY_14 : decode cX12_liesY 14 = .ok (.iaload, 1) := by decide +kernel
theorem dX12_liesY_15 : decode cX12_liesY 15 = .ok (.ineg, 1) := by decide +kernel
theorem dX12_liesY_16 : decode cX12_liesY 16 = .ok (.goto 12, 3) := by decide +kernel
theorem dX12_liesY_19 : decode cX12_liesY 19 = .ok (.aload_n 0, 1) := by decide +kernel
theorem dX12_liesY_20 : decode cX12_liesY 20 = .ok (.getfield 7, 3) := by decide +kernel
theorem dX12_liesY_23 : decode cX12_liesY 23 = .ok (.bipush 121, 2) := by decide +kernel
theorem dX12_liesY_25 : decode cX12_liesY 25 = .ok (.iload_n 1, 1) := by decide +kernel
theorem dX12_liesY_26 : decode cX12_liesY 26 = .ok (.iadd, 1) := by decide +kernel
theorem dX12_liesY_27 : decode cX12_liesY 27 = .ok (.iaload, 1) := by decide +kernel
theorem dX12_liesY_28 : decode cX12_liesY 28 = .ok (.istore 5, 2) := by decide +kernel
theorem dX12_liesY_30 : decode cX12_liesY 30 = .ok (.aload_n 0, 1) := by decide +kernel
theorem dX12_liesY_31 : decode cX12_liesY 31 = .ok (.getfield 7, 3) := by decide +kernel
theorem dX12_liesY_34 : decode cX12_liesY 34 = .ok (.sipush 131, 3) := by decide +kernel
theorem dX12_liesY_37 : decode cX12_liesY 37 = .ok (.iload_n 1, 1) := by decide +kernel
theorem dX12_liesY_38 : decode cX12_liesY 38 = .ok (.iadd, 1) := by decide +kernel
theorem dX12_liesY_39 : decode cX12_liesY 39 = .ok (.iaload, 1) := by decide +kernel
theorem dX12_liesY_40 : decode cX12_liesY 40 = .ok (.istore 6, 2) := by decide +kernel
theorem dX12_liesY_42 : decode cX12_liesY 42 = .ok (.iload_n 3, 1) := by decide +kernel
theorem dX12_liesY_43 : decode cX12_liesY 43 = .ok (.ifCond .ne 8, 3) := by decide +kernel
theorem dX12_liesY_46 : decode cX12_liesY 46 = .ok (.iload 6, 2) := by decide +kernel
theorem dX12_liesY_48 : decode cX12_liesY 48 = .ok (.goto 27, 3) := by decide +kernel
theorem dX12_liesY_51 : decode cX12_liesY 51 = .ok (.iload_n 3, 1) := by decide +kernel
theorem dX12_liesY_52 : decode cX12_liesY 52 = .ok (.iconst 1, 1) := by decide +kernel
theorem dX12_liesY_53 : decode cX12_liesY 53 = .ok (.if_icmp .ne 8, 3) := by decide +kernel
theorem dX12_liesY_56 : decode cX12_liesY 56 = .ok (.iload 5, 2) := by decide +kernel
theorem dX12_liesY_58 : decode cX12_liesY 58 = .ok (.goto 17, 3) := by decide +kernel
theorem dX12_liesY_61 : decode cX12_liesY 61 = .ok (.iload_n 3, 1) := by decide +kernel
theorem dX12_liesY_62 : decode cX12_liesY 62 = .ok (.iconst 2, 1) := by decide +kernel
theorem dX12_liesY_63 : decode cX12_liesY 63 = .ok (.if_icmp .ne 9, 3) := by decide +kernel
theorem dX12_liesY_66 : decode cX12_liesY 66 = .ok (.iload 6, 2) := by decide +kernel
theorem dX12_liesY_68 : decode cX12_liesY 68 = .ok (.ineg, 1) := by decide +kernel
theorem dX12_liesY_69 : decode cX12_liesY 69 = .ok (.goto 6, 3) := by decide +kernel
theorem dX12_liesY_72 : decode cX12_liesY 72 = .ok (.iload 5, 2) := by decide +kernel
theorem dX12_liesY_74 : decode cX12_liesY 74 = .ok (.ineg, 1) := by decide +kernel
theorem dX12_liesY_75 : decode cX12_liesY 75 = .ok (.iload_n 2, 1) := by decide +kernel
theorem dX12_liesY_76 : decode cX12_liesY 76 = .ok (.invokestatic 140, 3) := by decide +kernel
theorem dX12_liesY_79 : decode cX12_liesY 79 = .ok (.ireturn, 1) := by decide +kernel
theorem dX12_lies_0 : decode cX12_lies 0 = .ok (.aload_n 0, 1) := by decide +kernel
theorem dX12_lies_1 : decode cX12_lies 1 = .ok (.iload_n 1, 1) := by decide +kernel
theorem dX12_lies_2 : decode cX12_lies 2 = .ok (.invokevirtual 127, 3) := by decide +kernel
theorem dX12_lies_5 : decode cX12_lies 5 = .ok (.ifCond .eq 12, 3) := by decide +kernel
theorem dX12_lies_8 : decode cX12_lies 8 = .ok (.iload_n 2, 1) := by decide +kernel
theorem dX12_lies_9 : decode cX12_lies 9 = .ok (.iconst 0, 1) := by decide +kernel
theorem dX12_lies_10 : decode cX12_lies 10 = .ok (.iconst 1, 1) := by decide +kernel
theorem dX12_lies_11 : decode cX12_lies 11 = .ok (.invokestatic 58, 3) := by decide +kernel
theorem dX12_lies_14 : decode cX12_lies 14 = .ok (.ifCond .ne 5, 3) := by decide +kernel
theorem dX12_lies_17 : decode cX12_lies 17 = .ok (.iconst (-1), 1) := by decide +kernel
theorem dX12_lies_18 : decode cX12_lies 18 = .ok (.ireturn, 1) := by decide +kernel
theorem dX12_lies_19 : decode cX12_lies 19 = .ok (.bipush 100, 2) := by decide +kernel
theorem dX12_lies_21 : decode cX12_lies 21 = .ok (.iload_n 2, 1) := by decide +kernel
theorem dX12_lies_22 : decode cX12_lies 22 = .ok (.ifCond .ne 23, 3) := by decide +kernel
theorem dX12_lies_25 : decode cX12_lies 25 = .ok (.aload_n 0, 1) := by decide +kernel
theorem dX12_lies_26 : decode cX12_lies 26 = .ok (.iload_n 1, 1) := by decide +kernel
theorem dX12_lies_27 : decode cX12_lies 27 = .ok (.aload_n 0, 1) := by decide +kernel
theorem dX12_lies_28 : decode cX12_lies 28 = .ok (.getfield 19, 3) := by decide +kernel
theorem dX12_lies_31 : decode cX12_lies 31 = .ok (.aload_n 0, 1) := by decide +kernel
theorem dX12_lies_32 : decode cX12_lies 32 = .ok (.getfield 108, 3) := by decide +kernel
theorem dX12_lies_35 : decode cX12_lies 35 = .ok (.aload_n 0, 1) := by decide +kernel
theorem dX12_lies_36 : decode cX12_lies 36 = .ok (.getfield 111, 3) := by decide +kernel
theorem dX12_lies_39 : decode cX12_lies 39 = .ok (.invokevirtual 143, 3) := by decide +kernel
theorem dX12_lies_42 : decode cX12_lies 42 = .ok (.goto 20, 3) := by decide +kernel
theorem dX12_lies_45 : decode cX12_lies 45 = .ok (.aload_n 0, 1) := by decide +kernel
theorem dX12_lies_46 : decode cX12_lies 46 = .ok (.iload_n 1, 1) := by decide +kernel
theorem dX12_lies_47 : decode cX12_lies 47 = .ok (.aload_n 0, 1) := by decide +kernel
theorem dX12_lies_48 : decode cX12_lies 48 = .ok (.getfield 19, 3) := by decide +kernel
theorem dX12_lies_51 : decode cX12_lies 51 = .ok (.aload_n 0, 1) := by decide +kernel
theorem dX12_lies_52 : decode cX12_lies 52 = .ok (.getfield 108, 3) := by decide +kernel
theorem dX12_lies_55 : decode cX12_lies 55 = .ok (.aload_n 0, 1) := by decide +kernel
theorem dX12_lies_56 : decode cX12_lies 56 = .ok (.getfield 111, 3) := by decide +kernel
theorem dX12_lies_59 : decode cX12_lies 59 = .ok (.invokevirtual 146, 3) := by decide +kernel
theorem dX12_lies_62 : decode cX12_lies 62 = .ok (.iadd, 1) := by decide +kernel
theorem dX12_lies_63 : decode cX12_lies 63 = .ok (.ireturn, 1) := by decide +kernel
theorem dX12_looks_0 : decode cX12_looks 0 = .ok (.aload_n 0, 1) := by decide +kernel
theorem dX12_looks_1 : decode cX12_looks 1 = .ok (.iconst 0, 1) := by decide +kernel
theorem dX12_looks_2 : decode cX12_looks 2 = .ok (.putfield 149, 3) := by decide +kernel
theorem dX12_looks_5 : decode cX12_looks 5 = .ok (.aload_n 0, 1) := by decide +kernel
theorem dX12_looks_6 : decode cX12_looks 6 = .ok (.iconst (-1), 1) := by decide +kernel
theorem dX12_looks_7 : decode cX12_looks 7 = .ok (.putfield 152, 3) := by decide +kernel
theorem dX12_looks_10 : decode cX12_looks 10 = .ok (.aload_n 0, 1) := by decide +kernel
theorem dX12_looks_11 : decode cX12_looks 11 = .ok (.iconst 0, 1) := by decide +kernel
theorem dX12_looks_12 : decode cX12_looks 12 = .ok (.putfield 155, 3) := by decide +kernel
theorem dX12_looks_15 : decode cX12_looks 15 = .ok (.iconst 0, 1) := by decide +kernel
theorem dX12_looks_16 : decode cX12_looks 16 = .ok (.istore 6, 2) := by decide +kernel
theorem dX12_looks_18 : decode cX12_looks 18 = .ok (.iload 6, 2) := by decide +kernel
theorem dX12_looks_20 : decode cX12_looks 20 = .ok (.aload_n 0, 1) := by decide +kernel
theorem dX12_looks_21 : decode cX12_looks 21 = .ok (.getfield 7, 3) := by decide +kernel
theorem dX12_looks_24 : decode cX12_looks 24 = .ok (.sipush 141, 3) := by decide +kernel
theorem dX12_looks_27 : decode cX12_looks 27 = .ok (.iaload, 1) := by decide +kernel
theorem dX12_looks_28 : decode cX12_looks 28 = .ok (.if_icmp .ge 142, 3) := by decide +kernel
theorem dX12_looks_31 : decode cX12_looks 31 = .ok (.iload_n 1, 1) := by decide +kernel
theorem dX12_looks_32 : decode cX12_looks 32 = .ok (.aload_n 0, 1) := by decide +kernel
theorem dX12_looks_33 : decode cX12_looks 33 = .ok (.iload 6, 2) := by decide +kernel
theorem dX12_looks_35 : decode cX12_looks 35 = .ok (.iload_n 3, 1) := by decide +kernel
theorem dX12_looks_36 : decode cX12_looks 36 = .ok (.iload 4, 2) := by decide +kernel
theorem dX12_looks_38 : decode cX12_looks 38 = .ok (.iload 5, 2) := by decide +kernel
theorem dX12_looks_40 : decode cX12_looks 40 = .ok (.invokevirtual 143, 3) := by decide +kernel
theorem dX12_looks_43 : decode cX12_looks 43 = .ok (.iadd, 1) := by decide +kernel
theorem dX12_looks_44 : decode cX12_looks 44 = .ok (.istore 7, 2) := by decide +kernel
theorem dX12_looks_46 : decode cX12_looks 46 = .ok (.iload_n 2, 1) := by decide +kernel
theorem dX12_looks_47 : decode cX12_looks 47 = .ok (.aload_n 0, 1) := by decide +kernel
theorem dX12_looks_48 : decode cX12_looks 48 = .ok (.iload 6, 2) := by decide +kernel
theorem dX12_looks_50 : decode cX12_looks 50 = .ok (.iload_n 3, 1) := by decide +kernel
theorem dX12_looks_51 : decode cX12_looks 51 = .ok (.iload 4, 2) := by decide +kernel
theorem dX12_looks_53 : decode cX12_looks 53 = .ok (.iload 5, 2) := by decide +kernel
theorem dX12_looks_55 : decode cX12_looks 55 = .ok (.invokevirtual 146, 3) := by decide +kernel
theorem dX12_looks_58 : decode cX12_looks 58 = .ok (.iadd, 1) := by decide +kernel
theorem dX12_looks_59 : decode cX12_looks 59 = .ok (.istore 8, 2) := by decide +kernel
theorem dX12_looks_61 : decode cX12_looks 61 = .ok (.aload_n 0, 1) := by decide +kernel
theorem dX12_looks_62 : decode cX12_looks 62 = .ok (.iload 7, 2) := by decide +kernel
theorem dX12_looks_64 : decode cX12_looks 64 = .ok (.iload 8, 2) := by decide +kernel
theorem dX12_looks_66 : decode cX12_looks 66 = .ok (.invokevirtual 120, 3) := by decide +kernel
theorem dX12_looks_69 : decode cX12_looks 69 = .ok (.ifCond .ne 5, 3) := by decide +kernel
theorem dX12_looks_72 : decode cX12_looks 72 = .ok (.iconst 0, 1) := by decide +kernel
theorem dX12_looks_73 : decode cX12_looks 73 = .ok (.ireturn, 1) := by decide +kernel
theorem dX12_looks_74 : decode cX12_looks 74 = .ok (.aload_n 0, 1) := by decide +kernel
theorem dX12_looks_75 : decode cX12_looks 75 = .ok (.getfield 35, 3) := by decide +kernel
theorem dX12_looks_78 : decode cX12_looks 78 = .ok (.iload 7, 2) := by decide +kernel
theorem dX12_looks_80 : decode cX12_looks 80 = .ok (.iload 8, 2) := by decide +kernel
theorem dX12_looks_82 : decode cX12_looks 82 = .ok (.invokestatic 50, 3) := by decide +kernel
theorem dX12_looks_85 : decode cX12_looks 85 = .ok (.iaload, 1) := by decide +kernel
theorem dX12_looks_86 : decode cX12_looks 86 = .ok (.istore 9, 2) := by decide +kernel
theorem dX12_looks_88 : decode cX12_looks 88 = .ok (.aload_n 0, 1) := by decide +kernel
theorem dX12_looks_89 : decode cX12_looks 89 = .ok (.dup, 1) := by decide +kernel
theorem dX12_looks_90 : decode cX12_looks 90 = .ok (.getfield 149, 3) := by decide +kernel
theorem dX12_looks_93 : decode cX12_looks 93 = .ok (.iload 9, 2) := by decide +kernel
theorem dX12_looks_95 : decode cX12_looks 95 = .ok (.iadd, 1) := by decide +kernel
theorem dX12_looks_96 : decode cX12_looks 96 = .ok (.putfield 149, 3) := by decide +kernel
theorem dX12_looks_99 : decode cX12_looks 99 = .ok (.aload_n 0, 1) := by decide +kernel
theorem dX12_looks_100 : decode cX12_looks 100 = .ok (.iload 9, 2) := by decide +kernel
theorem dX12_looks_102 : decode cX12_looks 102 = .ok (.aload_n 0, 1) := by decide +kernel
theorem dX12_looks_103 : decode cX12_looks 103 = .ok (.getfield 152, 3) := by decide +kernel
theorem dX12_looks_106 : decode cX12_looks 106 = .ok (.if_icmp .le 8, 3) := by decide +kernel
theorem dX12_looks_109 : decode cX12_looks 109 = .ok (.iload 6, 2) := by decide +kernel
theorem dX12_looks_111 : decode cX12_looks 111 = .ok (.goto 7, 3) := by decide +kernel
theorem dX12_looks_114 : decode cX12_looks 114 = .ok (.aload_n 0, 1) := by decide +kernel
theorem dX12_looks_115 : decode cX12_looks 115 = .ok (.getfield 158, 3) := by decide +kernel
theorem dX12_looks_118 : decode cX12_looks 118 = .ok (.putfield 158, 3) := by decide +kernel
theorem dX12_looks_121 : decode cX12_looks 121 = .ok (.aload_n 0, 1) := by decide +kernel
theorem dX12_looks_122 : decode cX12_looks 122 = .ok (.iload 9, 2) := by decide +kernel
theorem dX12_looks_124 : decode cX12_looks 124 = .ok (.aload_n 0, 1) := by decide +kernel
theorem dX12_looks_125 : decode cX12_looks 125 = .ok (.getfield 152, 3) := by decide +kernel
theorem dX12_looks_128 : decode cX12_looks 128 = .ok (.if_icmp .le 8, 3) := by decide +kernel
theorem dX12_looks_131 : decode cX12_looks 131 = .ok (.iload 9, 2) := by decide +kernel
theorem dX12_looks_133 : decode cX12_looks 133 = .ok (.goto 7, 3) := by decide +kernel
theorem dX12_looks_136 : decode cX12_looks 136 = .ok (.aload_n 0, 1) := by decide +kernel
theorem dX12_looks_137 : decode cX12_looks 137 = .ok (.getfield 152, 3) := by decide +kernel
theorem dX12_looks_140 : decode cX12_looks 140 = .ok (.putfield 152, 3) := by decide +kernel
theorem dX12_looks_143 : decode cX12_looks 143 = .ok (.aload_n 0, 1) := by decide +kernel
theorem dX12_looks_144 : decode cX12_looks 144 = .ok (.dup, 1) := by decide +kernel
theorem dX12_looks_145 : decode cX12_looks 145 = .ok (.getfield 155, 3) := by decide +kernel
theorem dX12_looks_148 : decode cX12_looks 148 = .ok (.aload_n 0, 1) := by decide +kernel
theorem dX12_looks_149 : decode cX12_looks 149 = .ok (.getfield 7, 3) := by decide +kernel
theorem dX12_looks_152 : decode cX12_looks 152 = .ok (.iload 7, 2) := by decide +kernel
theorem dX12_looks_154 : decode cX12_looks 154 = .ok (.iload 8, 2) := by decide +kernel
theorem dX12_looks_156 : decode cX12_looks 156 = .ok (.invokestatic 50, 3) := by decide +kernel
theorem dX12_looks_159 : decode cX12_looks 159 = .ok (.iaload, 1) := by decide +kernel
theorem dX12_looks_160 : decode cX12_looks 160 = .ok (.iadd, 1) := by decide +kernel
theorem dX12_looks_161 : decode cX12_looks 161 = .ok (.putfield 155, 3) := by decide +kernel
theorem dX12_looks_164 : decode cX12_looks 164 = .ok (.iinc 6 1, 3) := by decide +kernel
theorem dX12_looks_167 : decode cX12_looks 167 = .ok (.goto (-149), 3) := by decide +kernel
theorem dX12_looks_170 : decode cX12_looks 170 = .ok (.iconst 1, 1) := by decide +kernel
theorem dX12_looks_171 : decode cX12_looks 171 = .ok (.ireturn, 1) := by decide +kernel
theorem dX12_pose_0 : decode cX12_pose 0 = .ok (.aload_n 0, 1) := by decide +kernel
theorem dX12_pose_1 : decode cX12_pose 1 = .ok (.iload_n 1, 1) := by decide +kernel
theorem dX12_pose_2 : decode cX12_pose 2 = .ok (.iload_n 2, 1) := by decide +kernel
theorem dX12_pose_3 : decode cX12_pose 3 = .ok (.invokevirtual 120, 3) := by decide +kernel
theorem dX12_pose_6 : decode cX12_pose 6 = .ok (.ifCond .eq 12, 3) := by decide +kernel
theorem dX12_pose_9 : decode cX12_pose 9 = .ok (.iload_n 3, 1) := by decide +kernel
theorem dX12_pose_10 : decode cX12_pose 10 = .ok (.iconst 0, 1) := by decide +kernel
theorem dX12_pose_11 : decode cX12_pose 11 = .ok (.iconst 3, 1) := by decide +kernel
end
section
theorem dX12_pose_12 : decode cX12_pose 12 = .ok (.invokestatic 58, 3) := by decide +kernel
theorem dX12_pose_15 : decode cX12_pose 15 = .ok (.ifCond .ne 5, 3) := by decide +kernel
theorem dX12_pose_18 : decode cX12_pose 18 = .ok (.iconst (-1), 1) := by decide +kernel
theorem dX12_pose_19 : decode cX12_pose 19 = .ok (.ireturn, 1) := by decide +kernel
theorem dX12_pose_20 : decode cX12_pose 20 = .ok (.aload_n 0, 1) := by decide +kernel
theorem dX12_pose_21 : decode cX12_pose 21 = .ok (.invokevirtual 161, 3) := by decide +kernel
theorem dX12_pose_24 : decode cX12_pose 24 = .ok (.aload_n 0, 1) := by decide +kernel
theorem dX12_pose_25 : decode cX12_pose 25 = .ok (.iload_n 1, 1) := by decide +kernel
theorem dX12_pose_26 : decode cX12_pose 26 = .ok (.iload_n 2, 1) := by decide +kernel
theorem dX12_pose_27 : decode cX12_pose 27 = .ok (.aload_n 0, 1) := by decide +kernel
theorem dX12_pose_28 : decode cX12_pose 28 = .ok (.getfield 19, 3) := by decide +kernel
theorem dX12_pose_31 : decode cX12_pose 31 = .ok (.aload_n 0, 1) := by decide +kernel
theorem dX12_pose_32 : decode cX12_pose 32 = .ok (.getfield 108, 3) := by decide +kernel
theorem dX12_pose_35 : decode cX12_pose 35 = .ok (.aload_n 0, 1) := by decide +kernel
theorem dX12_pose_36 : decode cX12_pose 36 = .ok (.getfield 111, 3) := by decide +kernel
theorem dX12_pose_39 : decode cX12_pose 39 = .ok (.invokevirtual 164, 3) := by decide +kernel
theorem dX12_pose_42 : decode cX12_pose 42 = .ok (.ifCond .ne 6, 3) := by decide +kernel
theorem dX12_pose_45 : decode cX12_pose 45 = .ok (.bipush (-4), 2) := by decide +kernel
theorem dX12_pose_47 : decode cX12_pose 47 = .ok (.ireturn, 1) := by decide +kernel
theorem dX12_pose_48 : decode cX12_pose 48 = .ok (.iload_n 3, 1) := by decide +kernel
theorem dX12_pose_49 : decode cX12_pose 49 = .ok (.ifCond .ne 10, 3) := by decide +kernel
theorem dX12_pose_52 : decode cX12_pose 52 = .ok (.aload_n 0, 1) := by decide +kernel
theorem dX12_pose_53 : decode cX12_pose 53 = .ok (.getfield 149, 3) := by decide +kernel
theorem dX12_pose_56 : decode cX12_pose 56 = .ok (.goto 31, 3) := by decide +kernel
theorem dX12_pose_59 : decode cX12_pose 59 = .ok (.iload_n 3, 1) := by decide +kernel
theorem dX12_pose_60 : decode cX12_pose 60 = .ok (.iconst 1, 1) := by decide +kernel
theorem dX12_pose_61 : decode cX12_pose 61 = .ok (.if_icmp .ne 10, 3) := by decide +kernel
theorem dX12_pose_64 : decode cX12_pose 64 = .ok (.aload_n 0, 1) := by decide +kernel
theorem dX12_pose_65 : decode cX12_pose 65 = .ok (.getfield 152, 3) := by decide +kernel
theorem dX12_pose_68 : decode cX12_pose 68 = .ok (.goto 19, 3) := by decide +kernel
theorem dX12_pose_71 : decode cX12_pose 71 = .ok (.iload_n 3, 1) := by decide +kernel
theorem dX12_pose_72 : decode cX12_pose 72 = .ok (.iconst 2, 1) := by decide +kernel
theorem dX12_pose_73 : decode cX12_pose 73 = .ok (.if_icmp .ne 10, 3) := by decide +kernel
theorem dX12_pose_76 : decode cX12_pose 76 = .ok (.aload_n 0, 1) := by decide +kernel
theorem dX12_pose_77 : decode cX12_pose 77 = .ok (.getfield 158, 3) := by decide +kernel
theorem dX12_pose_80 : decode cX12_pose 80 = .ok (.goto 7, 3) := by decide +kernel
theorem dX12_pose_83 : decode cX12_pose 83 = .ok (.aload_n 0, 1) := by decide +kernel
theorem dX12_pose_84 : decode cX12_pose 84 = .ok (.getfield 155, 3) := by decide +kernel
theorem dX12_pose_87 : decode cX12_pose 87 = .ok (.ireturn, 1) := by decide +kernel
theorem dX12_fits_0 : decode cX12_fits 0 = .ok (.iconst 0, 1) := by decide +kernel
theorem dX12_fits_1 : decode cX12_fits 1 = .ok (.istore_n 1, 1) := by decide +kernel
theorem dX12_fits_2 : decode cX12_fits 2 = .ok (.iconst 0, 1) := by decide +kernel
theorem dX12_fits_3 : decode cX12_fits 3 = .ok (.istore_n 2, 1) := by decide +kernel
theorem dX12_fits_4 : decode cX12_fits 4 = .ok (.iload_n 2, 1) := by decide +kernel
theorem dX12_fits_5 : decode cX12_fits 5 = .ok (.bipush 121, 2) := by decide +kernel
theorem dX12_fits_7 : decode cX12_fits 7 = .ok (.if_icmp .ge 59, 3) := by decide +kernel
theorem dX12_fits_10 : decode cX12_fits 10 = .ok (.iload_n 1, 1) := by decide +kernel
theorem dX12_fits_11 : decode cX12_fits 11 = .ok (.aload_n 0, 1) := by decide +kernel
theorem dX12_fits_12 : decode cX12_fits 12 = .ok (.iload_n 2, 1) := by decide +kernel
theorem dX12_fits_13 : decode cX12_fits 13 = .ok (.bipush 11, 2) := by decide +kernel
theorem dX12_fits_15 : decode cX12_fits 15 = .ok (.irem, 1) := by decide +kernel
theorem dX12_fits_16 : decode cX12_fits 16 = .ok (.iload_n 2, 1) := by decide +kernel
theorem dX12_fits_17 : decode cX12_fits 17 = .ok (.bipush 11, 2) := by decide +kernel
theorem dX12_fits_19 : decode cX12_fits 19 = .ok (.idiv, 1) := by decide +kernel
theorem dX12_fits_20 : decode cX12_fits 20 = .ok (.invokevirtual 120, 3) := by decide +kernel
theorem dX12_fits_23 : decode cX12_fits 23 = .ok (.ifCond .eq 34, 3) := by decide +kernel
theorem dX12_fits_26 : decode cX12_fits 26 = .ok (.aload_n 0, 1) := by decide +kernel
theorem dX12_fits_27 : decode cX12_fits 27 = .ok (.iload_n 2, 1) := by decide +kernel
theorem dX12_fits_28 : decode cX12_fits 28 = .ok (.bipush 11, 2) := by decide +kernel
theorem dX12_fits_30 : decode cX12_fits 30 = .ok (.irem, 1) := by decide +kernel
theorem dX12_fits_31 : decode cX12_fits 31 = .ok (.iload_n 2, 1) := by decide +kernel
theorem dX12_fits_32 : decode cX12_fits 32 = .ok (.bipush 11, 2) := by decide +kernel
theorem dX12_fits_34 : decode cX12_fits 34 = .ok (.idiv, 1) := by decide +kernel
theorem dX12_fits_35 : decode cX12_fits 35 = .ok (.aload_n 0, 1) := by decide +kernel
theorem dX12_fits_36 : decode cX12_fits 36 = .ok (.getfield 19, 3) := by decide +kernel
theorem dX12_fits_39 : decode cX12_fits 39 = .ok (.aload_n 0, 1) := by decide +kernel
theorem dX12_fits_40 : decode cX12_fits 40 = .ok (.getfield 108, 3) := by decide +kernel
theorem dX12_fits_43 : decode cX12_fits 43 = .ok (.aload_n 0, 1) := by decide +kernel
theorem dX12_fits_44 : decode cX12_fits 44 = .ok (.getfield 111, 3) := by decide +kernel
theorem dX12_fits_47 : decode cX12_fits 47 = .ok (.invokevirtual 164, 3) := by decide +kernel
theorem dX12_fits_50 : decode cX12_fits 50 = .ok (.ifCond .eq 7, 3) := by decide +kernel
theorem dX12_fits_53 : decode cX12_fits 53 = .ok (.iconst 1, 1) := by decide +kernel
theorem dX12_fits_54 : decode cX12_fits 54 = .ok (.goto 4, 3) := by decide +kernel
theorem dX12_fits_57 : decode cX12_fits 57 = .ok (.iconst 0, 1) := by decide +kernel
theorem dX12_fits_58 : decode cX12_fits 58 = .ok (.iadd, 1) := by decide +kernel
theorem dX12_fits_59 : decode cX12_fits 59 = .ok (.istore_n 1, 1) := by decide +kernel
theorem dX12_fits_60 : decode cX12_fits 60 = .ok (.iinc 2 1, 3) := by decide +kernel
theorem dX12_fits_63 : decode cX12_fits 63 = .ok (.goto (-59), 3) := by decide +kernel
theorem dX12_fits_66 : decode cX12_fits 66 = .ok (.iload_n 1, 1) := by decide +kernel
theorem dX12_fits_67 : decode cX12_fits 67 = .ok (.ireturn, 1) := by decide +kernel
theorem dX12_bound_0 : decode cX12_bound 0 = .ok (.aload_n 0, 1) := by decide +kernel
theorem dX12_bound_1 : decode cX12_bound 1 = .ok (.iload_n 1, 1) := by decide +kernel
theorem dX12_bound_2 : decode cX12_bound 2 = .ok (.iload_n 2, 1) := by decide +kernel
theorem dX12_bound_3 : decode cX12_bound 3 = .ok (.invokevirtual 120, 3) := by decide +kernel
theorem dX12_bound_6 : decode cX12_bound 6 = .ok (.ifCond .eq 13, 3) := by decide +kernel
theorem dX12_bound_9 : decode cX12_bound 9 = .ok (.iload_n 3, 1) := by decide +kernel
theorem dX12_bound_10 : decode cX12_bound 10 = .ok (.iconst 1, 1) := by decide +kernel
theorem dX12_bound_11 : decode cX12_bound 11 = .ok (.bipush 11, 2) := by decide +kernel
theorem dX12_bound_13 : decode cX12_bound 13 = .ok (.invokestatic 58, 3) := by decide +kernel
theorem dX12_bound_16 : decode cX12_bound 16 = .ok (.ifCond .ne 5, 3) := by decide +kernel
theorem dX12_bound_19 : decode cX12_bound 19 = .ok (.iconst (-1), 1) := by decide +kernel
theorem dX12_bound_20 : decode cX12_bound 20 = .ok (.ireturn, 1) := by decide +kernel
theorem dX12_bound_21 : decode cX12_bound 21 = .ok (.aload_n 0, 1) := by decide +kernel
theorem dX12_bound_22 : decode cX12_bound 22 = .ok (.invokevirtual 161, 3) := by decide +kernel
theorem dX12_bound_25 : decode cX12_bound 25 = .ok (.iconst 0, 1) := by decide +kernel
theorem dX12_bound_26 : decode cX12_bound 26 = .ok (.istore 4, 2) := by decide +kernel
theorem dX12_bound_28 : decode cX12_bound 28 = .ok (.iconst 0, 1) := by decide +kernel
theorem dX12_bound_29 : decode cX12_bound 29 = .ok (.istore 5, 2) := by decide +kernel
theorem dX12_bound_31 : decode cX12_bound 31 = .ok (.iload 5, 2) := by decide +kernel
theorem dX12_bound_33 : decode cX12_bound 33 = .ok (.aload_n 0, 1) := by decide +kernel
theorem dX12_bound_34 : decode cX12_bound 34 = .ok (.getfield 7, 3) := by decide +kernel
theorem dX12_bound_37 : decode cX12_bound 37 = .ok (.sipush 141, 3) := by decide +kernel
theorem dX12_bound_40 : decode cX12_bound 40 = .ok (.iaload, 1) := by decide +kernel
theorem dX12_bound_41 : decode cX12_bound 41 = .ok (.if_icmp .ge 167, 3) := by decide +kernel
theorem dX12_bound_44 : decode cX12_bound 44 = .ok (.ldc 168, 2) := by decide +kernel
theorem dX12_bound_46 : decode cX12_bound 46 = .ok (.istore 6, 2) := by decide +kernel
theorem dX12_bound_48 : decode cX12_bound 48 = .ok (.iconst 0, 1) := by decide +kernel
theorem dX12_bound_49 : decode cX12_bound 49 = .ok (.istore 7, 2) := by decide +kernel
theorem dX12_bound_51 : decode cX12_bound 51 = .ok (.iload 7, 2) := by decide +kernel
theorem dX12_bound_53 : decode cX12_bound 53 = .ok (.iload_n 3, 1) := by decide +kernel
theorem dX12_bound_54 : decode cX12_bound 54 = .ok (.iload_n 3, 1) := by decide +kernel
theorem dX12_bound_55 : decode cX12_bound 55 = .ok (.imul, 1) := by decide +kernel
theorem dX12_bound_56 : decode cX12_bound 56 = .ok (.if_icmp .ge 129, 3) := by decide +kernel
theorem dX12_bound_59 : decode cX12_bound 59 = .ok (.iload_n 1, 1) := by decide +kernel
theorem dX12_bound_60 : decode cX12_bound 60 = .ok (.iload 7, 2) := by decide +kernel
theorem dX12_bound_62 : decode cX12_bound 62 = .ok (.iload_n 3, 1) := by decide +kernel
theorem dX12_bound_63 : decode cX12_bound 63 = .ok (.irem, 1) := by decide +kernel
theorem dX12_bound_64 : decode cX12_bound 64 = .ok (.iadd, 1) := by decide +kernel
theorem dX12_bound_65 : decode cX12_bound 65 = .ok (.istore 8, 2) := by decide +kernel
theorem dX12_bound_67 : decode cX12_bound 67 = .ok (.iload_n 2, 1) := by decide +kernel
theorem dX12_bound_68 : decode cX12_bound 68 = .ok (.iload 7, 2) := by decide +kernel
theorem dX12_bound_70 : decode cX12_bound 70 = .ok (.iload_n 3, 1) := by decide +kernel
theorem dX12_bound_71 : decode cX12_bound 71 = .ok (.idiv, 1) := by decide +kernel
theorem dX12_bound_72 : decode cX12_bound 72 = .ok (.iadd, 1) := by decide +kernel
theorem dX12_bound_73 : decode cX12_bound 73 = .ok (.istore 9, 2) := by decide +kernel
theorem dX12_bound_75 : decode cX12_bound 75 = .ok (.iload 8, 2) := by decide +kernel
theorem dX12_bound_77 : decode cX12_bound 77 = .ok (.aload_n 0, 1) := by decide +kernel
theorem dX12_bound_78 : decode cX12_bound 78 = .ok (.iload 5, 2) := by decide +kernel
theorem dX12_bound_80 : decode cX12_bound 80 = .ok (.aload_n 0, 1) := by decide +kernel
theorem dX12_bound_81 : decode cX12_bound 81 = .ok (.getfield 19, 3) := by decide +kernel
theorem dX12_bound_84 : decode cX12_bound 84 = .ok (.aload_n 0, 1) := by decide +kernel
theorem dX12_bound_85 : decode cX12_bound 85 = .ok (.getfield 108, 3) := by decide +kernel
theorem dX12_bound_88 : decode cX12_bound 88 = .ok (.aload_n 0, 1) := by decide +kernel
theorem dX12_bound_89 : decode cX12_bound 89 = .ok (.getfield 111, 3) := by decide +kernel
theorem dX12_bound_92 : decode cX12_bound 92 = .ok (.invokevirtual 143, 3) := by decide +kernel
theorem dX12_bound_95 : decode cX12_bound 95 = .ok (.iadd, 1) := by decide +kernel
theorem dX12_bound_96 : decode cX12_bound 96 = .ok (.istore 10, 2) := by decide +kernel
theorem dX12_bound_98 : decode cX12_bound 98 = .ok (.iload 9, 2) := by decide +kernel
theorem dX12_bound_100 : decode cX12_bound 100 = .ok (.aload_n 0, 1) := by decide +kernel
theorem dX12_bound_101 : decode cX12_bound 101 = .ok (.iload 5, 2) := by decide +kernel
theorem dX12_bound_103 : decode cX12_bound 103 = .ok (.aload_n 0, 1) := by decide +kernel
theorem dX12_bound_104 : decode cX12_bound 104 = .ok (.getfield 19, 3) := by decide +kernel
theorem dX12_bound_107 : decode cX12_bound 107 = .ok (.aload_n 0, 1) := by decide +kernel
theorem dX12_bound_108 : decode cX12_bound 108 = .ok (.getfield 108, 3) := by decide +kernel
theorem dX12_bound_111 : decode cX12_bound 111 = .ok (.aload_n 0, 1) := by decide +kernel
theorem dX12_bound_112 : decode cX12_bound 112 = .ok (.getfield 111, 3) := by decide +kernel
theorem dX12_bound_115 : decode cX12_bound 115 = .ok (.invokevirtual 146, 3) := by decide +kernel
theorem dX12_bound_118 : decode cX12_bound 118 = .ok (.iadd, 1) := by decide +kernel
theorem dX12_bound_119 : decode cX12_bound 119 = .ok (.istore 11, 2) := by decide +kernel
theorem dX12_bound_121 : decode cX12_bound 121 = .ok (.aload_n 0, 1) := by decide +kernel
theorem dX12_bound_122 : decode cX12_bound 122 = .ok (.iload 8, 2) := by decide +kernel
theorem dX12_bound_124 : decode cX12_bound 124 = .ok (.iload 9, 2) := by decide +kernel
theorem dX12_bound_126 : decode cX12_bound 126 = .ok (.invokevirtual 120, 3) := by decide +kernel
theorem dX12_bound_129 : decode cX12_bound 129 = .ok (.ifCond .eq 46, 3) := by decide +kernel
theorem dX12_bound_132 : decode cX12_bound 132 = .ok (.aload_n 0, 1) := by decide +kernel
theorem dX12_bound_133 : decode cX12_bound 133 = .ok (.iload 10, 2) := by decide +kernel
theorem dX12_bound_135 : decode cX12_bound 135 = .ok (.iload 11, 2) := by decide +kernel
theorem dX12_bound_137 : decode cX12_bound 137 = .ok (.invokevirtual 120, 3) := by decide +kernel
theorem dX12_bound_140 : decode cX12_bound 140 = .ok (.ifCond .eq 35, 3) := by decide +kernel
theorem dX12_bound_143 : decode cX12_bound 143 = .ok (.aload_n 0, 1) := by decide +kernel
theorem dX12_bound_144 : decode cX12_bound 144 = .ok (.getfield 35, 3) := by decide +kernel
theorem dX12_bound_147 : decode cX12_bound 147 = .ok (.iload 10, 2) := by decide +kernel
theorem dX12_bound_149 : decode cX12_bound 149 = .ok (.iload 11, 2) := by decide +kernel
theorem dX12_bound_151 : decode cX12_bound 151 = .ok (.invokestatic 50, 3) := by decide +kernel
theorem dX12_bound_154 : decode cX12_bound 154 = .ok (.iaload, 1) := by decide +kernel
theorem dX12_bound_155 : decode cX12_bound 155 = .ok (.iload 6, 2) := by decide +kernel
theorem dX12_bound_157 : decode cX12_bound 157 = .ok (.if_icmp .ge 18, 3) := by decide +kernel
theorem dX12_bound_160 : decode cX12_bound 160 = .ok (.aload_n 0, 1) := by decide +kernel
theorem dX12_bound_161 : decode cX12_bound 161 = .ok (.getfield 35, 3) := by decide +kernel
theorem dX12_bound_164 : decode cX12_bound 164 = .ok (.iload 10, 2) := by decide +kernel
theorem dX12_bound_166 : decode cX12_bound 166 = .ok (.iload 11, 2) := by decide +kernel
theorem dX12_bound_168 : decode cX12_bound 168 = .ok (.invokestatic 50, 3) := by decide +kernel
theorem dX12_bound_171 : decode cX12_bound 171 = .ok (.iaload, 1) := by decide +kernel
theorem dX12_bound_172 : decode cX12_bound 172 = .ok (.goto 5, 3) := by decide +kernel
theorem dX12_bound_175 : decode cX12_bound 175 = .ok (.iload 6, 2) := by decide +kernel
theorem dX12_bound_177 : decode cX12_bound 177 = .ok (.istore 6, 2) := by decide +kernel
theorem dX12_bound_179 : decode cX12_bound 179 = .ok (.iinc 7 1, 3) := by decide +kernel
theorem dX12_bound_182 : decode cX12_bound 182 = .ok (.goto (-131), 3) := by decide +kernel
theorem dX12_bound_185 : decode cX12_bound 185 = .ok (.iload 6, 2) := by decide +kernel
theorem dX12_bound_187 : decode cX12_bound 187 = .ok (.ldc 168, 2) := by decide +kernel
theorem dX12_bound_189 : decode cX12_bound 189 = .ok (.if_icmp .ne 6, 3) := by decide +kernel
theorem dX12_bound_192 : decode cX12_bound 192 = .ok (.bipush (-4), 2) := by decide +kernel
theorem dX12_bound_194 : decode cX12_bound 194 = .ok (.ireturn, 1) := by decide +kernel
theorem dX12_bound_195 : decode cX12_bound 195 = .ok (.iload 4, 2) := by decide +kernel
theorem dX12_bound_197 : decode cX12_bound 197 = .ok (.iload 6, 2) := by decide +kernel
theorem dX12_bound_199 : decode cX12_bound 199 = .ok (.iadd, 1) := by decide +kernel
theorem dX12_bound_200 : decode cX12_bound 200 = .ok (.istore 4, 2) := by decide +kernel
theorem dX12_bound_202 : decode cX12_bound 202 = .ok (.iinc 5 1, 3) := by decide +kernel
theorem dX12_bound_205 : decode cX12_bound 205 = .ok (.goto (-174), 3) := by decide +kernel
theorem dX12_bound_208 : decode cX12_bound 208 = .ok (.iload 4, 2) := by decide +kernel
theorem dX12_bound_210 : decode cX12_bound 210 = .ok (.ireturn, 1) := by decide +kernel
theorem dX12_isTold_0 : decode cX12_isTold 0 = .ok (.iconst 0, 1) := by decide +kernel
theorem dX12_isTold_1 : decode cX12_isTold 1 = .ok (.istore 8, 2) := by decide +kernel
theorem dX12_isTold_3 : decode cX12_isTold 3 = .ok (.iconst 0, 1) := by decide +kernel
theorem dX12_isTold_4 : decode cX12_isTold 4 = .ok (.istore 9, 2) := by decide +kernel
theorem dX12_isTold_6 : decode cX12_isTold 6 = .ok (.iload 9, 2) := by decide +kernel
theorem dX12_isTold_8 : decode cX12_isTold 8 = .ok (.aload_n 0, 1) := by decide +kernel
theorem dX12_isTold_9 : decode cX12_isTold 9 = .ok (.getfield 7, 3) := by decide +kernel
theorem dX12_isTold_12 : decode cX12_isTold 12 = .ok (.sipush 141, 3) := by decide +kernel
theorem dX12_isTold_15 : decode cX12_isTold 15 = .ok (.iaload, 1) := by decide +kernel
theorem dX12_isTold_16 : decode cX12_isTold 16 = .ok (.if_icmp .ge 76, 3) := by decide +kernel
theorem dX12_isTold_19 : decode cX12_isTold 19 = .ok (.aload_n 0, 1) := by decide +kernel
theorem dX12_isTold_20 : decode cX12_isTold 20 = .ok (.getfield 7, 3) := by decide +kernel
theorem dX12_isTold_23 : decode cX12_isTold 23 = .ok (.iload_n 1, 1) := by decide +kernel
theorem dX12_isTold_24 : decode cX12_isTold 24 = .ok (.iaload, 1) := by decide +kernel
theorem dX12_isTold_25 : decode cX12_isTold 25 = .ok (.iconst 1, 1) := by decide +kernel
theorem dX12_isTold_26 : decode cX12_isTold 26 = .ok (.if_icmp .ne 66, 3) := by decide +kernel
theorem dX12_isTold_29 : decode cX12_isTold 29 = .ok (.iload 8, 2) := by decide +kernel
theorem dX12_isTold_31 : decode cX12_isTold 31 = .ok (.ifCond .ne 48, 3) := by decide +kernel
theorem dX12_isTold_34 : decode cX12_isTold 34 = .ok (.aload_n 0, 1) := by decide +kernel
theorem dX12_isTold_35 : decode cX12_isTold 35 = .ok (.iload_n 1, 1) := by decide +kernel
theorem dX12_isTold_36 : decode cX12_isTold 36 = .ok (.bipush 11, 2) := by decide +kernel
theorem dX12_isTold_38 : decode cX12_isTold 38 = .ok (.irem, 1) := by decide +kernel
theorem dX12_isTold_39 : decode cX12_isTold 39 = .ok (.iload_n 1, 1) := by decide +kernel
theorem dX12_isTold_40 : decode cX12_isTold 40 = .ok (.bipush 11, 2) := by decide +kernel
theorem dX12_isTold_42 : decode cX12_isTold 42 = .ok (.idiv, 1) := by decide +kernel
theorem dX12_isTold_43 : decode cX12_isTold 43 = .ok (.iload_n 2, 1) := by decide +kernel
theorem dX12_isTold_44 : decode cX12_isTold 44 = .ok (.aload_n 0, 1) := by decide +kernel
theorem dX12_isTold_45 : decode cX12_isTold 45 = .ok (.iload 9, 2) := by decide +kernel
theorem dX12_isTold_47 : decode cX12_isTold 47 = .ok (.iload 4, 2) := by decide +kernel
theorem dX12_isTold_49 : decode cX12_isTold 49 = .ok (.iload 5, 2) := by decide +kernel
theorem dX12_isTold_51 : decode cX12_isTold 51 = .ok (.iload 6, 2) := by decide +kernel
theorem dX12_isTold_53 : decode cX12_isTold 53 = .ok (.invokevirtual 143, 3) := by decide +kernel
theorem dX12_isTold_56 : decode cX12_isTold 56 = .ok (.iadd, 1) := by decide +kernel
theorem dX12_isTold_57 : decode cX12_isTold 57 = .ok (.iload_n 3, 1) := by decide +kernel
theorem dX12_isTold_58 : decode cX12_isTold 58 = .ok (.aload_n 0, 1) := by decide +kernel
theorem dX12_isTold_59 : decode cX12_isTold 59 = .ok (.iload 9, 2) := by decide +kernel
theorem dX12_isTold_61 : decode cX12_isTold 61 = .ok (.iload 4, 2) := by decide +kernel
theorem dX12_isTold_63 : decode cX12_isTold 63 = .ok (.iload 5, 2) := by decide +kernel
theorem dX12_isTold_65 : decode cX12_isTold 65 = .ok (.iload 6, 2) := by decide +kernel
theorem dX12_isTold_67 : decode cX12_isTold 67 = .ok (.invokevirtual 146, 3) := by decide +kernel
theorem dX12_isTold_70 : decode cX12_isTold 70 = .ok (.iadd, 1) := by decide +kernel
theorem dX12_isTold_71 : decode cX12_isTold 71 = .ok (.invokevirtual 130, 3) := by decide +kernel
theorem dX12_isTold_74 : decode cX12_isTold 74 = .ok (.iload 7, 2) := by decide +kernel
theorem dX12_isTold_76 : decode cX12_isTold 76 = .ok (.if_icmp .gt 7, 3) := by decide +kernel
theorem dX12_isTold_79 : decode cX12_isTold 79 = .ok (.iconst 1, 1) := by decide +kernel
theorem dX12_isTold_80 : decode cX12_isTold 80 = .ok (.goto 4, 3) := by decide +kernel
theorem dX12_isTold_83 : decode cX12_isTold 83 = .ok (.iconst 0, 1) := by decide +kernel
theorem dX12_isTold_84 : decode cX12_isTold 84 = .ok (.istore 8, 2) := by decide +kernel
theorem dX12_isTold_86 : decode cX12_isTold 86 = .ok (.iinc 9 1, 3) := by decide +kernel
theorem dX12_isTold_89 : decode cX12_isTold 89 = .ok (.goto (-83), 3) := by decide +kernel
theorem dX12_isTold_92 : decode cX12_isTold 92 = .ok (.iload 8, 2) := by decide +kernel
theorem dX12_isTold_94 : decode cX12_isTold 94 = .ok (.ireturn, 1) := by decide +kernel
theorem dX12_toldMany_0 : decode cX12_toldMany 0 = .ok (.iconst 0, 1) := by decide +kernel
theorem dX12_toldMany_1 : decode cX12_toldMany 1 = .ok (.istore 7, 2) := by decide +kernel
theorem dX12_toldMany_3 : decode cX12_toldMany 3 = .ok (.iconst 0, 1) := by decide +kernel
theorem dX12_toldMany_4 : decode cX12_toldMany 4 = .ok (.istore 8, 2) := by decide +kernel
theorem dX12_toldMany_6 : decode cX12_toldMany 6 = .ok (.iload 8, 2) := by decide +kernel
theorem dX12_toldMany_8 : decode cX12_toldMany 8 = .ok (.bipush 121, 2) := by decide +kernel
theorem dX12_toldMany_10 : decode cX12_toldMany 10 = .ok (.if_icmp .ge 37, 3) := by decide +kernel
theorem dX12_toldMany_13 : decode cX12_toldMany 13 = .ok (.iload 7, 2) := by decide +kernel
theorem dX12_toldMany_15 : decode cX12_toldMany 15 = .ok (.aload_n 0, 1) := by decide +kernel
theorem dX12_toldMany_16 : decode cX12_toldMany 16 = .ok (.iload 8, 2) := by decide +kernel
theorem dX12_toldMany_18 : decode cX12_toldMany 18 = .ok (.iload_n 1, 1) := by decide +kernel
theorem dX12_toldMany_19 : decode cX12_toldMany 19 = .ok (.iload_n 2, 1) := by decide +kernel
theorem dX12_toldMany_20 : decode cX12_toldMany 20 = .ok (.iload_n 3, 1) := by decide +kernel
theorem dX12_toldMany_21 : decode cX12_toldMany 21 = .ok (.iload 4, 2) := by decide +kernel
theorem dX12_toldMany_23 : decode cX12_toldMany 23 = .ok (.iload 5, 2) := by decide +kernel
theorem dX12_toldMany_25 : decode cX12_toldMany 25 = .ok (.iload 6, 2) := by decide +kernel
theorem dX12_toldMany_27 : decode cX12_toldMany 27 = .ok (.invokevirtual 169, 3) := by decide +kernel
theorem dX12_toldMany_30 : decode cX12_toldMany 30 = .ok (.ifCond .eq 7, 3) := by decide +kernel
theorem dX12_toldMany_33 : decode cX12_toldMany 33 = .ok (.iconst 1, 1) := by decide +kernel
theorem dX12_toldMany_34 : decode cX12_toldMany 34 = .ok (.goto 4, 3) := by decide +kernel
theorem dX12_toldMany_37 : decode cX12_toldMany 37 = .ok (.iconst 0, 1) := by decide +kernel
theorem dX12_toldMany_38 : decode cX12_toldMany 38 = .ok (.iadd, 1) := by decide +kernel
theorem dX12_toldMany_39 : decode cX12_toldMany 39 = .ok (.istore 7, 2) := by decide +kernel
theorem dX12_toldMany_41 : decode cX12_toldMany 41 = .ok (.iinc 8 1, 3) := by decide +kernel
theorem dX12_toldMany_44 : decode cX12_toldMany 44 = .ok (.goto (-38), 3) := by decide +kernel
theorem dX12_toldMany_47 : decode cX12_toldMany 47 = .ok (.iload 7, 2) := by decide +kernel
theorem dX12_toldMany_49 : decode cX12_toldMany 49 = .ok (.ireturn, 1) := by decide +kernel
theorem dX12_tells_0 : decode cX12_tells 0 = .ok (.aload_n 0, 1) := by decide +kernel
theorem dX12_tells_1 : decode cX12_tells 1 = .ok (.iload_n 1, 1) := by decide +kernel
theorem dX12_tells_2 : decode cX12_tells 2 = .ok (.iload_n 2, 1) := by decide +kernel
theorem dX12_tells_3 : decode cX12_tells 3 = .ok (.invokevirtual 120, 3) := by decide +kernel
theorem dX12_tells_6 : decode cX12_tells 6 = .ok (.ifCond .eq 12, 3) := by decide +kernel
theorem dX12_tells_9 : decode cX12_tells 9 = .ok (.iload_n 3, 1) := by decide +kernel
theorem dX12_tells_10 : decode cX12_tells 10 = .ok (.iconst 0, 1) := by decide +kernel
theorem dX12_tells_11 : decode cX12_tells 11 = .ok (.iconst 3, 1) := by decide +kernel
theorem dX12_tells_12 : decode cX12_tells 12 = .ok (.invokestatic 58, 3) := by decide +kernel
theorem dX12_tells_15 : decode cX12_tells 15 = .ok (.ifCond .ne 5, 3) := by decide +kernel
theorem dX12_tells_18 : decode cX12_tells 18 = .ok (.iconst (-1), 1) := by decide +kernel
theorem dX12_tells_19 : decode cX12_tells 19 = .ok (.ireturn, 1) := by decide +kernel
theorem dX12_tells_20 : decode cX12_tells 20 = .ok (.aload_n 0, 1) := by decide +kernel
theorem dX12_tells_21 : decode cX12_tells 21 = .ok (.invokevirtual 161, 3) := by decide +kernel
theorem dX12_tells_24 : decode cX12_tells 24 = .ok (.aload_n 0, 1) := by decide +kernel
theorem dX12_tells_25 : decode cX12_tells 25 = .ok (.iload_n 1, 1) := by decide +kernel
theorem dX12_tells_26 : decode cX12_tells 26 = .ok (.iload_n 2, 1) := by decide +kernel
theorem dX12_tells_27 : decode cX12_tells 27 = .ok (.aload_n 0, 1) := by decide +kernel
theorem dX12_tells_28 : decode cX12_tells 28 = .ok (.getfield 19, 3) := by decide +kernel
theorem dX12_tells_31 : decode cX12_tells 31 = .ok (.aload_n 0, 1) := by decide +kernel
theorem dX12_tells_32 : decode cX12_tells 32 = .ok (.getfield 108, 3) := by decide +kernel
theorem dX12_tells_35 : decode cX12_tells 35 = .ok (.aload_n 0, 1) := by decide +kernel
theorem dX12_tells_36 : decode cX12_tells 36 = .ok (.getfield 111, 3) := by decide +kernel
theorem dX12_tells_39 : decode cX12_tells 39 = .ok (.invokevirtual 164, 3) := by decide +kernel
theorem dX12_tells_42 : decode cX12_tells 42 = .ok (.ifCond .eq 25, 3) := by decide +kernel
theorem dX12_tells_45 : decode cX12_tells 45 = .ok (.aload_n 0, 1) := by decide +kernel
theorem dX12_tells_46 : decode cX12_tells 46 = .ok (.iload_n 1, 1) := by decide +kernel
theorem dX12_tells_47 : decode cX12_tells 47 = .ok (.iload_n 2, 1) := by decide +kernel
theorem dX12_tells_48 : decode cX12_tells 48 = .ok (.aload_n 0, 1) := by decide +kernel
theorem dX12_tells_49 : decode cX12_tells 49 = .ok (.getfield 19, 3) := by decide +kernel
theorem dX12_tells_52 : decode cX12_tells 52 = .ok (.aload_n 0, 1) := by decide +kernel
theorem dX12_tells_53 : decode cX12_tells 53 = .ok (.getfield 108, 3) := by decide +kernel
theorem dX12_tells_56 : decode cX12_tells 56 = .ok (.aload_n 0, 1) := by decide +kernel
theorem dX12_tells_57 : decode cX12_tells 57 = .ok (.getfield 111, 3) := by decide +kernel
theorem dX12_tells_60 : decode cX12_tells 60 = .ok (.iload_n 3, 1) := by decide +kernel
theorem dX12_tells_61 : decode cX12_tells 61 = .ok (.invokevirtual 173, 3) := by decide +kernel
theorem dX12_tells_64 : decode cX12_tells 64 = .ok (.goto 5, 3) := by decide +kernel
theorem dX12_tells_67 : decode cX12_tells 67 = .ok (.bipush (-4), 2) := by decide +kernel
theorem dX12_tells_69 : decode cX12_tells 69 = .ok (.ireturn, 1) := by decide +kernel
theorem dX12_laysRanks_0 : decode cX12_laysRanks 0 = .ok (.aload_n 0, 1) := by decide +kernel
theorem dX12_laysRanks_1 : decode cX12_laysRanks 1 = .ok (.invokevirtual 161, 3) := by decide +kernel
theorem dX12_laysRanks_4 : decode cX12_laysRanks 4 = .ok (.aload_n 0, 1) := by decide +kernel
theorem dX12_laysRanks_5 : decode cX12_laysRanks 5 = .ok (.iconst 0, 1) := by decide +kernel
theorem dX12_laysRanks_6 : decode cX12_laysRanks 6 = .ok (.putfield 177, 3) := by decide +kernel
theorem dX12_laysRanks_9 : decode cX12_laysRanks 9 = .ok (.iconst 0, 1) := by decide +kernel
theorem dX12_laysRanks_10 : decode cX12_laysRanks 10 = .ok (.istore_n 1, 1) := by decide +kernel
theorem dX12_laysRanks_11 : decode cX12_laysRanks 11 = .ok (.iload_n 1, 1) := by decide +kernel
theorem dX12_laysRanks_12 : decode cX12_laysRanks 12 = .ok (.bipush 24, 2) := by decide +kernel
theorem dX12_laysRanks_14 : decode cX12_laysRanks 14 = .ok (.if_icmp .ge 123, 3) := by decide +kernel
theorem dX12_laysRanks_17 : decode cX12_laysRanks 17 = .ok (.iconst 2, 1) := by decide +kernel
theorem dX12_laysRanks_18 : decode cX12_laysRanks 18 = .ok (.iload_n 1, 1) := by decide +kernel
theorem dX12_laysRanks_19 : decode cX12_laysRanks 19 = .ok (.bipush 8, 2) := by decide +kernel
theorem dX12_laysRanks_21 : decode cX12_laysRanks 21 = .ok (.idiv, 1) := by decide +kernel
theorem dX12_laysRanks_22 : decode cX12_laysRanks 22 = .ok (.iadd, 1) := by decide +kernel
theorem dX12_laysRanks_23 : decode cX12_laysRanks 23 = .ok (.istore_n 2, 1) := by decide +kernel
theorem dX12_laysRanks_24 : decode cX12_laysRanks 24 = .ok (.iload_n 1, 1) := by decide +kernel
theorem dX12_laysRanks_25 : decode cX12_laysRanks 25 = .ok (.iconst 2, 1) := by decide +kernel
theorem dX12_laysRanks_26 : decode cX12_laysRanks 26 = .ok (.idiv, 1) := by decide +kernel
theorem dX12_laysRanks_27 : decode cX12_laysRanks 27 = .ok (.iconst 4, 1) := by decide +kernel
theorem dX12_laysRanks_28 : decode cX12_laysRanks 28 = .ok (.irem, 1) := by decide +kernel
theorem dX12_laysRanks_29 : decode cX12_laysRanks 29 = .ok (.istore_n 3, 1) := by decide +kernel
theorem dX12_laysRanks_30 : decode cX12_laysRanks 30 = .ok (.iload_n 1, 1) := by decide +kernel
theorem dX12_laysRanks_31 : decode cX12_laysRanks 31 = .ok (.iconst 2, 1) := by decide +kernel
theorem dX12_laysRanks_32 : decode cX12_laysRanks 32 = .ok (.irem, 1) := by decide +kernel
theorem dX12_laysRanks_33 : decode cX12_laysRanks 33 = .ok (.istore 4, 2) := by decide +kernel
theorem dX12_laysRanks_35 : decode cX12_laysRanks 35 = .ok (.iconst 0, 1) := by decide +kernel
theorem dX12_laysRanks_36 : decode cX12_laysRanks 36 = .ok (.istore 5, 2) := by decide +kernel
theorem dX12_laysRanks_38 : decode cX12_laysRanks 38 = .ok (.iload 5, 2) := by decide +kernel
theorem dX12_laysRanks_40 : decode cX12_laysRanks 40 = .ok (.bipush 121, 2) := by decide +kernel
theorem dX12_laysRanks_42 : decode cX12_laysRanks 42 = .ok (.if_icmp .ge 89, 3) := by decide +kernel
theorem dX12_laysRanks_45 : decode cX12_laysRanks 45 = .ok (.aload_n 0, 1) := by decide +kernel
theorem dX12_laysRanks_46 : decode cX12_laysRanks 46 = .ok (.iload 5, 2) := by decide +kernel
theorem dX12_laysRanks_48 : decode cX12_laysRanks 48 = .ok (.bipush 11, 2) := by decide +kernel
theorem dX12_laysRanks_50 : decode cX12_laysRanks 50 = .ok (.irem, 1) := by decide +kernel
theorem dX12_laysRanks_51 : decode cX12_laysRanks 51 = .ok (.iload 5, 2) := by decide +kernel
theorem dX12_laysRanks_53 : decode cX12_laysRanks 53 = .ok (.bipush 11, 2) := by decide +kernel
theorem dX12_laysRanks_55 : decode cX12_laysRanks 55 = .ok (.idiv, 1) := by decide +kernel
theorem dX12_laysRanks_56 : decode cX12_laysRanks 56 = .ok (.invokevirtual 120, 3) := by decide +kernel
theorem dX12_laysRanks_59 : decode cX12_laysRanks 59 = .ok (.ifCond .eq 66, 3) := by decide +kernel
theorem dX12_laysRanks_62 : decode cX12_laysRanks 62 = .ok (.aload_n 0, 1) := by decide +kernel
theorem dX12_laysRanks_63 : decode cX12_laysRanks 63 = .ok (.iload 5, 2) := by decide +kernel
theorem dX12_laysRanks_65 : decode cX12_laysRanks 65 = .ok (.bipush 11, 2) := by decide +kernel
theorem dX12_laysRanks_67 : decode cX12_laysRanks 67 = .ok (.irem, 1) := by decide +kernel
theorem dX12_laysRanks_68 : decode cX12_laysRanks 68 = .ok (.iload 5, 2) := by decide +kernel
theorem dX12_laysRanks_70 : decode cX12_laysRanks 70 = .ok (.bipush 11, 2) := by decide +kernel
theorem dX12_laysRanks_72 : decode cX12_laysRanks 72 = .ok (.idiv, 1) := by decide +kernel
theorem dX12_laysRanks_73 : decode cX12_laysRanks 73 = .ok (.iload_n 2, 1) := by decide +kernel
theorem dX12_laysRanks_74 : decode cX12_laysRanks 74 = .ok (.iload_n 3, 1) := by decide +kernel
theorem dX12_laysRanks_75 : decode cX12_laysRanks 75 = .ok (.iload 4, 2) := by decide +kernel
theorem dX12_laysRanks_77 : decode cX12_laysRanks 77 = .ok (.invokevirtual 164, 3) := by decide +kernel
theorem dX12_laysRanks_80 : decode cX12_laysRanks 80 = .ok (.ifCond .eq 45, 3) := by decide +kernel
theorem dX12_laysRanks_83 : decode cX12_laysRanks 83 = .ok (.aload_n 0, 1) := by decide +kernel
theorem dX12_laysRanks_84 : decode cX12_laysRanks 84 = .ok (.getfield 38, 3) := by decide +kernel
theorem dX12_laysRanks_87 : decode cX12_laysRanks 87 = .ok (.aload_n 0, 1) := by decide +kernel
theorem dX12_laysRanks_88 : decode cX12_laysRanks 88 = .ok (.getfield 177, 3) := by decide +kernel
theorem dX12_laysRanks_91 : decode cX12_laysRanks 91 = .ok (.aload_n 0, 1) := by decide +kernel
theorem dX12_laysRanks_92 : decode cX12_laysRanks 92 = .ok (.getfield 149, 3) := by decide +kernel
theorem dX12_laysRanks_95 : decode cX12_laysRanks 95 = .ok (.bipush 100, 2) := by decide +kernel
theorem dX12_laysRanks_97 : decode cX12_laysRanks 97 = .ok (.imul, 1) := by decide +kernel
theorem dX12_laysRanks_98 : decode cX12_laysRanks 98 = .ok (.aload_n 0, 1) := by decide +kernel
theorem dX12_laysRanks_99 : decode cX12_laysRanks 99 = .ok (.getfield 152, 3) := by decide +kernel
theorem dX12_laysRanks_102 : decode cX12_laysRanks 102 = .ok (.iadd, 1) := by decide +kernel
theorem dX12_laysRanks_103 : decode cX12_laysRanks 103 = .ok (.bipush 24, 2) := by decide +kernel
theorem dX12_laysRanks_105 : decode cX12_laysRanks 105 = .ok (.imul, 1) := by decide +kernel
theorem dX12_laysRanks_106 : decode cX12_laysRanks 106 = .ok (.iload_n 1, 1) := by decide +kernel
theorem dX12_laysRanks_107 : decode cX12_laysRanks 107 = .ok (.iadd, 1) := by decide +kernel
theorem dX12_laysRanks_108 : decode cX12_laysRanks 108 = .ok (.bipush 121, 2) := by decide +kernel
theorem dX12_laysRanks_110 : decode cX12_laysRanks 110 = .ok (.imul, 1) := by decide +kernel
theorem dX12_laysRanks_111 : decode cX12_laysRanks 111 = .ok (.iload 5, 2) := by decide +kernel
theorem dX12_laysRanks_113 : decode cX12_laysRanks 113 = .ok (.iadd, 1) := by decide +kernel
theorem dX12_laysRanks_114 : decode cX12_laysRanks 114 = .ok (.iastore, 1) := by decide +kernel
theorem dX12_laysRanks_115 : decode cX12_laysRanks 115 = .ok (.aload_n 0, 1) := by decide +kernel
theorem dX12_laysRanks_116 : decode cX12_laysRanks 116 = .ok (.dup, 1) := by decide +kernel
theorem dX12_laysRanks_117 : decode cX12_laysRanks 117 = .ok (.getfield 177, 3) := by decide +kernel
theorem dX12_laysRanks_120 : decode cX12_laysRanks 120 = .ok (.iconst 1, 1) := by decide +kernel
theorem dX12_laysRanks_121 : decode cX12_laysRanks 121 = .ok (.iadd, 1) := by decide +kernel
theorem dX12_laysRanks_122 : decode cX12_laysRanks 122 = .ok (.putfield 177, 3) := by decide +kernel
theorem dX12_laysRanks_125 : decode cX12_laysRanks 125 = .ok (.iinc 5 1, 3) := by decide +kernel
theorem dX12_laysRanks_128 : decode cX12_laysRanks 128 = .ok (.goto (-90), 3) := by decide +kernel
theorem dX12_laysRanks_131 : decode cX12_laysRanks 131 = .ok (.iinc 1 1, 3) := by decide +kernel
theorem dX12_laysRanks_134 : decode cX12_laysRanks 134 = .ok (.goto (-123), 3) := by decide +kernel
theorem dX12_laysRanks_137 : decode cX12_laysRanks 137 = .ok (.return_, 1) := by decide +kernel
theorem dX12_placeOf_0 : decode cX12_placeOf 0 = .ok (.iload_n 0, 1) := by decide +kernel
theorem dX12_placeOf_1 : decode cX12_placeOf 1 = .ok (.bipush 121, 2) := by decide +kernel
theorem dX12_placeOf_3 : decode cX12_placeOf 3 = .ok (.irem, 1) := by decide +kernel
theorem dX12_placeOf_4 : decode cX12_placeOf 4 = .ok (.ireturn, 1) := by decide +kernel
theorem dX12_isApart_0 : decode cX12_isApart 0 = .ok (.iconst 1, 1) := by decide +kernel
theorem dX12_isApart_1 : decode cX12_isApart 1 = .ok (.istore_n 3, 1) := by decide +kernel
theorem dX12_isApart_2 : decode cX12_isApart 2 = .ok (.iconst 0, 1) := by decide +kernel
theorem dX12_isApart_3 : decode cX12_isApart 3 = .ok (.istore 4, 2) := by decide +kernel
theorem dX12_isApart_5 : decode cX12_isApart 5 = .ok (.iload 4, 2) := by decide +kernel
theorem dX12_isApart_7 : decode cX12_isApart 7 = .ok (.aload_n 0, 1) := by decide +kernel
theorem dX12_isApart_8 : decode cX12_isApart 8 = .ok (.getfield 180, 3) := by decide +kernel
theorem dX12_isApart_11 : decode cX12_isApart 11 = .ok (.if_icmp .ge 96, 3) := by decide +kernel
theorem dX12_isApart_14 : decode cX12_isApart 14 = .ok (.iload_n 1, 1) := by decide +kernel
theorem dX12_isApart_15 : decode cX12_isApart 15 = .ok (.invokestatic 183, 3) := by decide +kernel
theorem dX12_isApart_18 : decode cX12_isApart 18 = .ok (.bipush 11, 2) := by decide +kernel
theorem dX12_isApart_20 : decode cX12_isApart 20 = .ok (.irem, 1) := by decide +kernel
theorem dX12_isApart_21 : decode cX12_isApart 21 = .ok (.aload_n 0, 1) := by decide +kernel
theorem dX12_isApart_22 : decode cX12_isApart 22 = .ok (.getfield 41, 3) := by decide +kernel
theorem dX12_isApart_25 : decode cX12_isApart 25 = .ok (.iload 4, 2) := by decide +kernel
theorem dX12_isApart_27 : decode cX12_isApart 27 = .ok (.iaload, 1) := by decide +kernel
theorem dX12_isApart_28 : decode cX12_isApart 28 = .ok (.invokestatic 183, 3) := by decide +kernel
theorem dX12_isApart_31 : decode cX12_isApart 31 = .ok (.bipush 11, 2) := by decide +kernel
theorem dX12_isApart_33 : decode cX12_isApart 33 = .ok (.irem, 1) := by decide +kernel
theorem dX12_isApart_34 : decode cX12_isApart 34 = .ok (.isub, 1) := by decide +kernel
theorem dX12_isApart_35 : decode cX12_isApart 35 = .ok (.istore 5, 2) := by decide +kernel
theorem dX12_isApart_37 : decode cX12_isApart 37 = .ok (.iload_n 1, 1) := by decide +kernel
theorem dX12_isApart_38 : decode cX12_isApart 38 = .ok (.invokestatic 183, 3) := by decide +kernel
theorem dX12_isApart_41 : decode cX12_isApart 41 = .ok (.bipush 11, 2) := by decide +kernel
theorem dX12_isApart_43 : decode cX12_isApart 43 = .ok (.idiv, 1) := by decide +kernel
theorem dX12_isApart_44 : decode cX12_isApart 44 = .ok (.aload_n 0, 1) := by decide +kernel
theorem dX12_isApart_45 : decode cX12_isApart 45 = .ok (.getfield 41, 3) := by decide +kernel
theorem dX12_isApart_48 : decode cX12_isApart 48 = .ok (.iload 4, 2) := by decide +kernel
theorem dX12_isApart_50 : decode cX12_isApart 50 = .ok (.iaload, 1) := by decide +kernel
theorem dX12_isApart_51 : decode cX12_isApart 51 = .ok (.invokestatic 183, 3) := by decide +kernel
theorem dX12_isApart_54 : decode cX12_isApart 54 = .ok (.bipush 11, 2) := by decide +kernel
theorem dX12_isApart_56 : decode cX12_isApart 56 = .ok (.idiv, 1) := by decide +kernel
theorem dX12_isApart_57 : decode cX12_isApart 57 = .ok (.isub, 1) := by decide +kernel
theorem dX12_isApart_58 : decode cX12_isApart 58 = .ok (.istore 6, 2) := by decide +kernel
theorem dX12_isApart_60 : decode cX12_isApart 60 = .ok (.iload_n 3, 1) := by decide +kernel
theorem dX12_isApart_61 : decode cX12_isApart 61 = .ok (.ifCond .eq 38, 3) := by decide +kernel
theorem dX12_isApart_64 : decode cX12_isApart 64 = .ok (.iload 5, 2) := by decide +kernel
theorem dX12_isApart_66 : decode cX12_isApart 66 = .ok (.ifCond .ge 9, 3) := by decide +kernel
theorem dX12_isApart_69 : decode cX12_isApart 69 = .ok (.iload 5, 2) := by decide +kernel
theorem dX12_isApart_71 : decode cX12_isApart 71 = .ok (.ineg, 1) := by decide +kernel
theorem dX12_isApart_72 : decode cX12_isApart 72 = .ok (.goto 5, 3) := by decide +kernel
theorem dX12_isApart_75 : decode cX12_isApart 75 = .ok (.iload 5, 2) := by decide +kernel
theorem dX12_isApart_77 : decode cX12_isApart 77 = .ok (.iload 6, 2) := by decide +kernel
theorem dX12_isApart_79 : decode cX12_isApart 79 = .ok (.ifCond .ge 9, 3) := by decide +kernel
theorem dX12_isApart_82 : decode cX12_isApart 82 = .ok (.iload 6, 2) := by decide +kernel
theorem dX12_isApart_84 : decode cX12_isApart 84 = .ok (.ineg, 1) := by decide +kernel
theorem dX12_isApart_85 : decode cX12_isApart 85 = .ok (.goto 5, 3) := by decide +kernel
theorem dX12_isApart_88 : decode cX12_isApart 88 = .ok (.iload 6, 2) := by decide +kernel
theorem dX12_isApart_90 : decode cX12_isApart 90 = .ok (.iadd, 1) := by decide +kernel
theorem dX12_isApart_91 : decode cX12_isApart 91 = .ok (.iload_n 2, 1) := by decide +kernel
theorem dX12_isApart_92 : decode cX12_isApart 92 = .ok (.if_icmp .lt 7, 3) := by decide +kernel
theorem dX12_isApart_95 : decode cX12_isApart 95 = .ok (.iconst 1, 1) := by decide +kernel
theorem dX12_isApart_96 : decode cX12_isApart 96 = .ok (.goto 4, 3) := by decide +kernel
theorem dX12_isApart_99 : decode cX12_isApart 99 = .ok (.iconst 0, 1) := by decide +kernel
theorem dX12_isApart_100 : decode cX12_isApart 100 = .ok (.istore_n 3, 1) := by decide +kernel
theorem dX12_isApart_101 : decode cX12_isApart 101 = .ok (.iinc 4 1, 3) := by decide +kernel
theorem dX12_isApart_104 : decode cX12_isApart 104 = .ok (.goto (-99), 3) := by decide +kernel
theorem dX12_isApart_107 : decode cX12_isApart 107 = .ok (.iload_n 3, 1) := by decide +kernel
theorem dX12_isApart_108 : decode cX12_isApart 108 = .ok (.ireturn, 1) := by decide +kernel
theorem dX12_chooses_0 : decode cX12_chooses 0 = .ok (.aload_n 0, 1) := by decide +kernel
theorem dX12_chooses_1 : decode cX12_chooses 1 = .ok (.invokevirtual 186, 3) := by decide +kernel
theorem dX12_chooses_4 : decode cX12_chooses 4 = .ok (.aload_n 0, 1) := by decide +kernel
theorem dX12_chooses_5 : decode cX12_chooses 5 = .ok (.iconst 0, 1) := by decide +kernel
theorem dX12_chooses_6 : decode cX12_chooses 6 = .ok (.putfield 180, 3) := by decide +kernel
theorem dX12_chooses_9 : decode cX12_chooses 9 = .ok (.iconst (-1), 1) := by decide +kernel
theorem dX12_chooses_10 : decode cX12_chooses 10 = .ok (.istore_n 2, 1) := by decide +kernel
theorem dX12_chooses_11 : decode cX12_chooses 11 = .ok (.aload_n 0, 1) := by decide +kernel
theorem dX12_chooses_12 : decode cX12_chooses 12 = .ok (.getfield 180, 3) := by decide +kernel
theorem dX12_chooses_15 : decode cX12_chooses 15 = .ok (.bipush 10, 2) := by decide +kernel
theorem dX12_chooses_17 : decode cX12_chooses 17 = .ok (.if_icmp .ge 105, 3) := by decide +kernel
theorem dX12_chooses_20 : decode cX12_chooses 20 = .ok (.ldc 168, 2) := by decide +kernel
theorem dX12_chooses_22 : decode cX12_chooses 22 = .ok (.istore_n 3, 1) := by decide +kernel
theorem dX12_chooses_23 : decode cX12_chooses 23 = .ok (.iconst 0, 1) := by decide +kernel
theorem dX12_chooses_24 : decode cX12_chooses 24 = .ok (.istore 4, 2) := by decide +kernel
theorem dX12_chooses_26 : decode cX12_chooses 26 = .ok (.iload 4, 2) := by decide +kernel
theorem dX12_chooses_28 : decode cX12_chooses 28 = .ok (.aload_n 0, 1) := by decide +kernel
theorem dX12_chooses_29 : decode cX12_chooses 29 = .ok (.getfield 177, 3) := by decide +kernel
theorem dX12_chooses_32 : decode cX12_chooses 32 = .ok (.if_icmp .ge 58, 3) := by decide +kernel
theorem dX12_chooses_35 : decode cX12_chooses 35 = .ok (.aload_n 0, 1) := by decide +kernel
theorem dX12_chooses_36 : decode cX12_chooses 36 = .ok (.getfield 38, 3) := by decide +kernel
theorem dX12_chooses_39 : decode cX12_chooses 39 = .ok (.iload 4, 2) := by decide +kernel
theorem dX12_chooses_41 : decode cX12_chooses 41 = .ok (.iaload, 1) := by decide +kernel
theorem dX12_chooses_42 : decode cX12_chooses 42 = .ok (.iload_n 2, 1) := by decide +kernel
theorem dX12_chooses_43 : decode cX12_chooses 43 = .ok (.if_icmp .le 39, 3) := by decide +kernel
theorem dX12_chooses_46 : decode cX12_chooses 46 = .ok (.aload_n 0, 1) := by decide +kernel
theorem dX12_chooses_47 : decode cX12_chooses 47 = .ok (.getfield 38, 3) := by decide +kernel
theorem dX12_chooses_50 : decode cX12_chooses 50 = .ok (.iload 4, 2) := by decide +kernel
theorem dX12_chooses_52 : decode cX12_chooses 52 = .ok (.iaload, 1) := by decide +kernel
theorem dX12_chooses_53 : decode cX12_chooses 53 = .ok (.iload_n 3, 1) := by decide +kernel
theorem dX12_chooses_54 : decode cX12_chooses 54 = .ok (.if_icmp .ge 28, 3) := by decide +kernel
theorem dX12_chooses_57 : decode cX12_chooses 57 = .ok (.aload_n 0, 1) := by decide +kernel
theorem dX12_chooses_58 : decode cX12_chooses 58 = .ok (.aload_n 0, 1) := by decide +kernel
theorem dX12_chooses_59 : decode cX12_chooses 59 = .ok (.getfield 38, 3) := by decide +kernel
theorem dX12_chooses_62 : decode cX12_chooses 62 = .ok (.iload 4, 2) := by decide +kernel
theorem dX12_chooses_64 : decode cX12_chooses 64 = .ok (.iaload, 1) := by decide +kernel
theorem dX12_chooses_65 : decode cX12_chooses 65 = .ok (.iload_n 1, 1) := by decide +kernel
theorem dX12_chooses_66 : decode cX12_chooses 66 = .ok (.invokevirtual 189, 3) := by decide +kernel
theorem dX12_chooses_69 : decode cX12_chooses 69 = .ok (.ifCond .eq 13, 3) := by decide +kernel
theorem dX12_chooses_72 : decode cX12_chooses 72 = .ok (.aload_n 0, 1) := by decide +kernel
theorem dX12_chooses_73 : decode cX12_chooses 73 = .ok (.getfield 38, 3) := by decide +kernel
theorem dX12_chooses_76 : decode cX12_chooses 76 = .ok (.iload 4, 2) := by decide +kernel
theorem dX12_chooses_78 : decode cX12_chooses 78 = .ok (.iaload, 1) := by decide +kernel
theorem dX12_chooses_79 : decode cX12_chooses 79 = .ok (.goto 4, 3) := by decide +kernel
theorem dX12_chooses_82 : decode cX12_chooses 82 = .ok (.iload_n 3, 1) := by decide +kernel
theorem dX12_chooses_83 : decode cX12_chooses 83 = .ok (.istore_n 3, 1) := by decide +kernel
theorem dX12_chooses_84 : decode cX12_chooses 84 = .ok (.iinc 4 1, 3) := by decide +kernel
theorem dX12_chooses_87 : decode cX12_chooses 87 = .ok (.goto (-61), 3) := by decide +kernel
theorem dX12_chooses_90 : decode cX12_chooses 90 = .ok (.iload_n 3, 1) := by decide +kernel
theorem dX12_chooses_91 : decode cX12_chooses 91 = .ok (.ldc 168, 2) := by decide +kernel
theorem dX12_chooses_93 : decode cX12_chooses 93 = .ok (.if_icmp .ne 4, 3) := by decide +kernel
theorem dX12_chooses_96 : decode cX12_chooses 96 = .ok (.return_, 1) := by decide +kernel
theorem dX12_chooses_97 : decode cX12_chooses 97 = .ok (.aload_n 0, 1) := by decide +kernel
theorem dX12_chooses_98 : decode cX12_chooses 98 = .ok (.getfield 41, 3) := by decide +kernel
theorem dX12_chooses_101 : decode cX12_chooses 101 = .ok (.aload_n 0, 1) := by decide +kernel
theorem dX12_chooses_102 : decode cX12_chooses 102 = .ok (.getfield 180, 3) := by decide +kernel
theorem dX12_chooses_105 : decode cX12_chooses 105 = .ok (.iload_n 3, 1) := by decide +kernel
theorem dX12_chooses_106 : decode cX12_chooses 106 = .ok (.iastore, 1) := by decide +kernel
theorem dX12_chooses_107 : decode cX12_chooses 107 = .ok (.aload_n 0, 1) := by decide +kernel
theorem dX12_chooses_108 : decode cX12_chooses 108 = .ok (.dup, 1) := by decide +kernel
theorem dX12_chooses_109 : decode cX12_chooses 109 = .ok (.getfield 180, 3) := by decide +kernel
theorem dX12_chooses_112 : decode cX12_chooses 112 = .ok (.iconst 1, 1) := by decide +kernel
theorem dX12_chooses_113 : decode cX12_chooses 113 = .ok (.iadd, 1) := by decide +kernel
theorem dX12_chooses_114 : decode cX12_chooses 114 = .ok (.putfield 180, 3) := by decide +kernel
theorem dX12_chooses_117 : decode cX12_chooses 117 = .ok (.iload_n 3, 1) := by decide +kernel
theorem dX12_chooses_118 : decode cX12_chooses 118 = .ok (.istore_n 2, 1) := by decide +kernel
theorem dX12_chooses_119 : decode cX12_chooses 119 = .ok (.goto (-108), 3) := by decide +kernel
theorem dX12_chooses_122 : decode cX12_chooses 122 = .ok (.return_, 1) := by decide +kernel
theorem dX12_partOf_0 : decode cX12_partOf 0 = .ok (.iload_n 0, 1) := by decide +kernel
theorem dX12_partOf_1 : decode cX12_partOf 1 = .ok (.bipush 121, 2) := by decide +kernel
theorem dX12_partOf_3 : decode cX12_partOf 3 = .ok (.idiv, 1) := by decide +kernel
theorem dX12_partOf_4 : decode cX12_partOf 4 = .ok (.bipush 24, 2) := by decide +kernel
theorem dX12_partOf_6 : decode cX12_partOf 6 = .ok (.irem, 1) := by decide +kernel
theorem dX12_partOf_7 : decode cX12_partOf 7 = .ok (.istore_n 2, 1) := by decide +kernel
theorem dX12_partOf_8 : decode cX12_partOf 8 = .ok (.iload_n 0, 1) := by decide +kernel
theorem dX12_partOf_9 : decode cX12_partOf 9 = .ok (.bipush 121, 2) := by decide +kernel
theorem dX12_partOf_11 : decode cX12_partOf 11 = .ok (.idiv, 1) := by decide +kernel
theorem dX12_partOf_12 : decode cX12_partOf 12 = .ok (.bipush 24, 2) := by decide +kernel
theorem dX12_partOf_14 : decode cX12_partOf 14 = .ok (.idiv, 1) := by decide +kernel
theorem dX12_partOf_15 : decode cX12_partOf 15 = .ok (.istore_n 3, 1) := by decide +kernel
theorem dX12_partOf_16 : decode cX12_partOf 16 = .ok (.iload_n 1, 1) := by decide +kernel
theorem dX12_partOf_17 : decode cX12_partOf 17 = .ok (.tableswitch 77 0 5 #[39, 47, 55, 62, 68, 72], 39) := by decide +kernel
theorem dX12_partOf_56 : decode cX12_partOf 56 = .ok (.iload_n 0, 1) := by decide +kernel
theorem dX12_partOf_57 : decode cX12_partOf 57 = .ok (.invokestatic 183, 3) := by decide +kernel
theorem dX12_partOf_60 : decode cX12_partOf 60 = .ok (.bipush 11, 2) := by decide +kernel
theorem dX12_partOf_62 : decode cX12_partOf 62 = .ok (.irem, 1) := by decide +kernel
theorem dX12_partOf_63 : decode cX12_partOf 63 = .ok (.ireturn, 1) := by decide +kernel
theorem dX12_partOf_64 : decode cX12_partOf 64 = .ok (.iload_n 0, 1) := by decide +kernel
theorem dX12_partOf_65 : decode cX12_partOf 65 = .ok (.invokestatic 183, 3) := by decide +kernel
theorem dX12_partOf_68 : decode cX12_partOf 68 = .ok (.bipush 11, 2) := by decide +kernel
theorem dX12_partOf_70 : decode cX12_partOf 70 = .ok (.idiv, 1) := by decide +kernel
theorem dX12_partOf_71 : decode cX12_partOf 71 = .ok (.ireturn, 1) := by decide +kernel
theorem dX12_partOf_72 : decode cX12_partOf 72 = .ok (.iconst 2, 1) := by decide +kernel
theorem dX12_partOf_73 : decode cX12_partOf 73 = .ok (.iload_n 2, 1) := by decide +kernel
theorem dX12_partOf_74 : decode cX12_partOf 74 = .ok (.bipush 8, 2) := by decide +kernel
theorem dX12_partOf_76 : decode cX12_partOf 76 = .ok (.idiv, 1) := by decide +kernel
theorem dX12_partOf_77 : decode cX12_partOf 77 = .ok (.iadd, 1) := by decide +kernel
theorem dX12_partOf_78 : decode cX12_partOf 78 = .ok (.ireturn, 1) := by decide +kernel
theorem dX12_partOf_79 : decode cX12_partOf 79 = .ok (.iload_n 2, 1) := by decide +kernel
theorem dX12_partOf_80 : decode cX12_partOf 80 = .ok (.iconst 2, 1) := by decide +kernel
theorem dX12_partOf_81 : decode cX12_partOf 81 = .ok (.idiv, 1) := by decide +kernel
theorem dX12_partOf_82 : decode cX12_partOf 82 = .ok (.iconst 4, 1) := by decide +kernel
theorem dX12_partOf_83 : decode cX12_partOf 83 = .ok (.irem, 1) := by decide +kernel
theorem dX12_partOf_84 : decode cX12_partOf 84 = .ok (.ireturn, 1) := by decide +kernel
theorem dX12_partOf_85 : decode cX12_partOf 85 = .ok (.iload_n 2, 1) := by decide +kernel
theorem dX12_partOf_86 : decode cX12_partOf 86 = .ok (.iconst 2, 1) := by decide +kernel
theorem dX12_partOf_87 : decode cX12_partOf 87 = .ok (.irem, 1) := by decide +kernel
theorem dX12_partOf_88 : decode cX12_partOf 88 = .ok (.ireturn, 1) := by decide +kernel
theorem dX12_partOf_89 : decode cX12_partOf 89 = .ok (.iload_n 3, 1) := by decide +kernel
theorem dX12_partOf_90 : decode cX12_partOf 90 = .ok (.bipush 100, 2) := by decide +kernel
theorem dX12_partOf_92 : decode cX12_partOf 92 = .ok (.idiv, 1) := by decide +kernel
theorem dX12_partOf_93 : decode cX12_partOf 93 = .ok (.ireturn, 1) := by decide +kernel
theorem dX12_partOf_94 : decode cX12_partOf 94 = .ok (.iload_n 3, 1) := by decide +kernel
theorem dX12_partOf_95 : decode cX12_partOf 95 = .ok (.bipush 100, 2) := by decide +kernel
theorem dX12_partOf_97 : decode cX12_partOf 97 = .ok (.irem, 1) := by decide +kernel
theorem dX12_partOf_98 : decode cX12_partOf 98 = .ok (.ireturn, 1) := by decide +kernel
theorem dX12_chosenIs_0 : decode cX12_chosenIs 0 = .ok (.aload_n 0, 1) := by decide +kernel
theorem dX12_chosenIs_1 : decode cX12_chosenIs 1 = .ok (.iload_n 1, 1) := by decide +kernel
theorem dX12_chosenIs_2 : decode cX12_chosenIs 2 = .ok (.invokevirtual 192, 3) := by decide +kernel
theorem dX12_chosenIs_5 : decode cX12_chosenIs 5 = .ok (.iload_n 2, 1) := by decide +kernel
theorem dX12_chosenIs_6 : decode cX12_chosenIs 6 = .ok (.ifCond .ge 10, 3) := by decide +kernel
theorem dX12_chosenIs_9 : decode cX12_chosenIs 9 = .ok (.aload_n 0, 1) := by decide +kernel
theorem dX12_chosenIs_10 : decode cX12_chosenIs 10 = .ok (.getfield 180, 3) := by decide +kernel
theorem dX12_chosenIs_13 : decode cX12_chosenIs 13 = .ok (.goto 26, 3) := by decide +kernel
theorem dX12_chosenIs_16 : decode cX12_chosenIs 16 = .ok (.iload_n 2, 1) := by decide +kernel
theorem dX12_chosenIs_17 : decode cX12_chosenIs 17 = .ok (.aload_n 0, 1) := by decide +kernel
theorem dX12_chosenIs_18 : decode cX12_chosenIs 18 = .ok (.getfield 180, 3) := by decide +kernel
theorem dX12_chosenIs_21 : decode cX12_chosenIs 21 = .ok (.if_icmp .ge 16, 3) := by decide +kernel
theorem dX12_chosenIs_24 : decode cX12_chosenIs 24 = .ok (.aload_n 0, 1) := by decide +kernel
theorem dX12_chosenIs_25 : decode cX12_chosenIs 25 = .ok (.getfield 41, 3) := by decide +kernel
theorem dX12_chosenIs_28 : decode cX12_chosenIs 28 = .ok (.iload_n 2, 1) := by decide +kernel
theorem dX12_chosenIs_29 : decode cX12_chosenIs 29 = .ok (.iaload, 1) := by decide +kernel
theorem dX12_chosenIs_30 : decode cX12_chosenIs 30 = .ok (.iload_n 3, 1) := by decide +kernel
theorem dX12_chosenIs_31 : decode cX12_chosenIs 31 = .ok (.invokestatic 196, 3) := by decide +kernel
theorem dX12_chosenIs_34 : decode cX12_chosenIs 34 = .ok (.goto 5, 3) := by decide +kernel
theorem dX12_chosenIs_37 : decode cX12_chosenIs 37 = .ok (.bipush (-4), 2) := by decide +kernel
theorem dX12_chosenIs_39 : decode cX12_chosenIs 39 = .ok (.ireturn, 1) := by decide +kernel
theorem dX12_best_0 : decode cX12_best 0 = .ok (.iload_n 1, 1) := by decide +kernel
theorem dX12_best_1 : decode cX12_best 1 = .ok (.iconst (-1), 1) := by decide +kernel
theorem dX12_best_2 : decode cX12_best 2 = .ok (.if_icmp .lt 23, 3) := by decide +kernel
theorem dX12_best_5 : decode cX12_best 5 = .ok (.iload_n 2, 1) := by decide +kernel
theorem dX12_best_6 : decode cX12_best 6 = .ok (.iconst 0, 1) := by decide +kernel
theorem dX12_best_7 : decode cX12_best 7 = .ok (.bipush 6, 2) := by decide +kernel
theorem dX12_best_9 : decode cX12_best 9 = .ok (.invokestatic 58, 3) := by decide +kernel
theorem dX12_best_12 : decode cX12_best 12 = .ok (.ifCond .eq 13, 3) := by decide +kernel
theorem dX12_best_15 : decode cX12_best 15 = .ok (.aload_n 0, 1) := by decide +kernel
theorem dX12_best_16 : decode cX12_best 16 = .ok (.iconst 0, 1) := by decide +kernel
theorem dX12_best_17 : decode cX12_best 17 = .ok (.iload_n 1, 1) := by decide +kernel
theorem dX12_best_18 : decode cX12_best 18 = .ok (.iload_n 2, 1) := by decide +kernel
theorem dX12_best_19 : decode cX12_best 19 = .ok (.invokevirtual 199, 3) := by decide +kernel
theorem dX12_best_22 : decode cX12_best 22 = .ok (.goto 4, 3) := by decide +kernel
theorem dX12_best_25 : decode cX12_best 25 = .ok (.iconst (-1), 1) := by decide +kernel
theorem dX12_best_26 : decode cX12_best 26 = .ok (.ireturn, 1) := by decide +kernel
theorem dX12_spread_0 : decode cX12_spread 0 = .ok (.iload_n 1, 1) := by decide +kernel
theorem dX12_spread_1 : decode cX12_spread 1 = .ok (.iconst 1, 1) := by decide +kernel
theorem dX12_spread_2 : decode cX12_spread 2 = .ok (.bipush 20, 2) := by decide +kernel
theorem dX12_spread_4 : decode cX12_spread 4 = .ok (.invokestatic 58, 3) := by decide +kernel
theorem dX12_spread_7 : decode cX12_spread 7 = .ok (.ifCond .eq 28, 3) := by decide +kernel
theorem dX12_spread_10 : decode cX12_spread 10 = .ok (.iload_n 2, 1) := by decide +kernel
theorem dX12_spread_11 : decode cX12_spread 11 = .ok (.iconst (-1), 1) := by decide +kernel
theorem dX12_spread_12 : decode cX12_spread 12 = .ok (.if_icmp .lt 23, 3) := by decide +kernel
theorem dX12_spread_15 : decode cX12_spread 15 = .ok (.iload_n 3, 1) := by decide +kernel
theorem dX12_spread_16 : decode cX12_spread 16 = .ok (.iconst 0, 1) := by decide +kernel
theorem dX12_spread_17 : decode cX12_spread 17 = .ok (.bipush 6, 2) := by decide +kernel
theorem dX12_spread_19 : decode cX12_spread 19 = .ok (.invokestatic 58, 3) := by decide +kernel
theorem dX12_spread_22 : decode cX12_spread 22 = .ok (.ifCond .eq 13, 3) := by decide +kernel
theorem dX12_spread_25 : decode cX12_spread 25 = .ok (.aload_n 0, 1) := by decide +kernel
theorem dX12_spread_26 : decode cX12_spread 26 = .ok (.iload_n 1, 1) := by decide +kernel
theorem dX12_spread_27 : decode cX12_spread 27 = .ok (.iload_n 2, 1) := by decide +kernel
theorem dX12_spread_28 : decode cX12_spread 28 = .ok (.iload_n 3, 1) := by decide +kernel
theorem dX12_spread_29 : decode cX12_spread 29 = .ok (.invokevirtual 199, 3) := by decide +kernel
theorem dX12_spread_32 : decode cX12_spread 32 = .ok (.goto 4, 3) := by decide +kernel
theorem dX12_spread_35 : decode cX12_spread 35 = .ok (.iconst (-1), 1) := by decide +kernel
theorem dX12_spread_36 : decode cX12_spread 36 = .ok (.ireturn, 1) := by decide +kernel
theorem dX12_takeOne_0 : decode cX12_takeOne 0 = .ok (.aload_n 0, 1) := by decide +kernel
theorem dX12_takeOne_1 : decode cX12_takeOne 1 = .ok (.getfield 7, 3) := by decide +kernel
theorem dX12_takeOne_4 : decode cX12_takeOne 4 = .ok (.sipush 144, 3) := by decide +kernel
theorem dX12_takeOne_7 : decode cX12_takeOne 7 = .ok (.iaload, 1) := by decide +kernel
theorem dX12_takeOne_8 : decode cX12_takeOne 8 = .ok (.bipush 8, 2) := by decide +kernel
theorem dX12_takeOne_10 : decode cX12_takeOne 10 = .ok (.if_icmp .ne 6, 3) := by decide +kernel
theorem dX12_takeOne_13 : decode cX12_takeOne 13 = .ok (.bipush (-3), 2) := by decide +kernel
theorem dX12_takeOne_15 : decode cX12_takeOne 15 = .ok (.ireturn, 1) := by decide +kernel
theorem dX12_takeOne_16 : decode cX12_takeOne 16 = .ok (.aload_n 0, 1) := by decide +kernel
theorem dX12_takeOne_17 : decode cX12_takeOne 17 = .ok (.iconst 0, 1) := by decide +kernel
theorem dX12_takeOne_18 : decode cX12_takeOne 18 = .ok (.invokevirtual 192, 3) := by decide +kernel
theorem dX12_takeOne_21 : decode cX12_takeOne 21 = .ok (.aload_n 0, 1) := by decide +kernel
theorem dX12_takeOne_22 : decode cX12_takeOne 22 = .ok (.getfield 180, 3) := by decide +kernel
theorem dX12_takeOne_25 : decode cX12_takeOne 25 = .ok (.ifCond .eq 17, 3) := by decide +kernel
theorem dX12_takeOne_28 : decode cX12_takeOne 28 = .ok (.aload_n 0, 1) := by decide +kernel
theorem dX12_takeOne_29 : decode cX12_takeOne 29 = .ok (.getfield 41, 3) := by decide +kernel
theorem dX12_takeOne_32 : decode cX12_takeOne 32 = .ok (.iconst 0, 1) := by decide +kernel
theorem dX12_takeOne_33 : decode cX12_takeOne 33 = .ok (.iaload, 1) := by decide +kernel
theorem dX12_takeOne_34 : decode cX12_takeOne 34 = .ok (.iconst 5, 1) := by decide +kernel
theorem dX12_takeOne_35 : decode cX12_takeOne 35 = .ok (.invokestatic 196, 3) := by decide +kernel
theorem dX12_takeOne_38 : decode cX12_takeOne 38 = .ok (.iload_n 2, 1) := by decide +kernel
theorem dX12_takeOne_39 : decode cX12_takeOne 39 = .ok (.if_icmp .le 6, 3) := by decide +kernel
theorem dX12_takeOne_42 : decode cX12_takeOne 42 = .ok (.bipush (-2), 2) := by decide +kernel
theorem dX12_takeOne_44 : decode cX12_takeOne 44 = .ok (.ireturn, 1) := by decide +kernel
theorem dX12_takeOne_45 : decode cX12_takeOne 45 = .ok (.aload_n 0, 1) := by decide +kernel
theorem dX12_takeOne_46 : decode cX12_takeOne 46 = .ok (.getfield 41, 3) := by decide +kernel
theorem dX12_takeOne_49 : decode cX12_takeOne 49 = .ok (.iconst 0, 1) := by decide +kernel
theorem dX12_takeOne_50 : decode cX12_takeOne 50 = .ok (.iaload, 1) := by decide +kernel
theorem dX12_takeOne_51 : decode cX12_takeOne 51 = .ok (.istore_n 3, 1) := by decide +kernel
theorem dX12_takeOne_52 : decode cX12_takeOne 52 = .ok (.iload_n 3, 1) := by decide +kernel
theorem dX12_takeOne_53 : decode cX12_takeOne 53 = .ok (.iconst 0, 1) := by decide +kernel
theorem dX12_takeOne_54 : decode cX12_takeOne 54 = .ok (.invokestatic 196, 3) := by decide +kernel
theorem dX12_takeOne_57 : decode cX12_takeOne 57 = .ok (.istore 4, 2) := by decide +kernel
theorem dX12_takeOne_59 : decode cX12_takeOne 59 = .ok (.iload_n 3, 1) := by decide +kernel
theorem dX12_takeOne_60 : decode cX12_takeOne 60 = .ok (.iconst 1, 1) := by decide +kernel
theorem dX12_takeOne_61 : decode cX12_takeOne 61 = .ok (.invokestatic 196, 3) := by decide +kernel
theorem dX12_takeOne_64 : decode cX12_takeOne 64 = .ok (.istore 5, 2) := by decide +kernel
theorem dX12_takeOne_66 : decode cX12_takeOne 66 = .ok (.iload_n 3, 1) := by decide +kernel
theorem dX12_takeOne_67 : decode cX12_takeOne 67 = .ok (.iconst 2, 1) := by decide +kernel
theorem dX12_takeOne_68 : decode cX12_takeOne 68 = .ok (.invokestatic 196, 3) := by decide +kernel
theorem dX12_takeOne_71 : decode cX12_takeOne 71 = .ok (.istore 6, 2) := by decide +kernel
theorem dX12_takeOne_73 : decode cX12_takeOne 73 = .ok (.iload_n 3, 1) := by decide +kernel
theorem dX12_takeOne_74 : decode cX12_takeOne 74 = .ok (.iconst 3, 1) := by decide +kernel
theorem dX12_takeOne_75 : decode cX12_takeOne 75 = .ok (.invokestatic 196, 3) := by decide +kernel
theorem dX12_takeOne_78 : decode cX12_takeOne 78 = .ok (.istore 7, 2) := by decide +kernel
theorem dX12_takeOne_80 : decode cX12_takeOne 80 = .ok (.iload_n 3, 1) := by decide +kernel
theorem dX12_takeOne_81 : decode cX12_takeOne 81 = .ok (.iconst 4, 1) := by decide +kernel
theorem dX12_takeOne_82 : decode cX12_takeOne 82 = .ok (.invokestatic 196, 3) := by decide +kernel
theorem dX12_takeOne_85 : decode cX12_takeOne 85 = .ok (.istore 8, 2) := by decide +kernel
theorem dX12_takeOne_87 : decode cX12_takeOne 87 = .ok (.aload_n 0, 1) := by decide +kernel
theorem dX12_takeOne_88 : decode cX12_takeOne 88 = .ok (.iload 4, 2) := by decide +kernel
theorem dX12_takeOne_90 : decode cX12_takeOne 90 = .ok (.iload 5, 2) := by decide +kernel
theorem dX12_takeOne_92 : decode cX12_takeOne 92 = .ok (.iload 6, 2) := by decide +kernel
theorem dX12_takeOne_94 : decode cX12_takeOne 94 = .ok (.iload 7, 2) := by decide +kernel
theorem dX12_takeOne_96 : decode cX12_takeOne 96 = .ok (.iload 8, 2) := by decide +kernel
theorem dX12_takeOne_98 : decode cX12_takeOne 98 = .ok (.iload_n 1, 1) := by decide +kernel
theorem dX12_takeOne_99 : decode cX12_takeOne 99 = .ok (.invokevirtual 173, 3) := by decide +kernel
theorem dX12_takeOne_102 : decode cX12_takeOne 102 = .ok (.istore 9, 2) := by decide +kernel
theorem dX12_takeOne_104 : decode cX12_takeOne 104 = .ok (.iload 9, 2) := by decide +kernel
theorem dX12_takeOne_106 : decode cX12_takeOne 106 = .ok (.ifCond .ne 6, 3) := by decide +kernel
theorem dX12_takeOne_109 : decode cX12_takeOne 109 = .ok (.bipush (-2), 2) := by decide +kernel
theorem dX12_takeOne_111 : decode cX12_takeOne 111 = .ok (.ireturn, 1) := by decide +kernel
theorem dX12_takeOne_112 : decode cX12_takeOne 112 = .ok (.aload_n 0, 1) := by decide +kernel
theorem dX12_takeOne_113 : decode cX12_takeOne 113 = .ok (.invokevirtual 124, 3) := by decide +kernel
theorem dX12_takeOne_116 : decode cX12_takeOne 116 = .ok (.iconst 0, 1) := by decide +kernel
theorem dX12_takeOne_117 : decode cX12_takeOne 117 = .ok (.istore 10, 2) := by decide +kernel
theorem dX12_takeOne_119 : decode cX12_takeOne 119 = .ok (.iload 10, 2) := by decide +kernel
theorem dX12_takeOne_121 : decode cX12_takeOne 121 = .ok (.bipush 121, 2) := by decide +kernel
theorem dX12_takeOne_123 : decode cX12_takeOne 123 = .ok (.if_icmp .ge 47, 3) := by decide +kernel
theorem dX12_takeOne_126 : decode cX12_takeOne 126 = .ok (.aload_n 0, 1) := by decide +kernel
theorem dX12_takeOne_127 : decode cX12_takeOne 127 = .ok (.getfield 7, 3) := by decide +kernel
theorem dX12_takeOne_130 : decode cX12_takeOne 130 = .ok (.iload 10, 2) := by decide +kernel
theorem dX12_takeOne_132 : decode cX12_takeOne 132 = .ok (.aload_n 0, 1) := by decide +kernel
theorem dX12_takeOne_133 : decode cX12_takeOne 133 = .ok (.iload 10, 2) := by decide +kernel
theorem dX12_takeOne_135 : decode cX12_takeOne 135 = .ok (.iload 4, 2) := by decide +kernel
theorem dX12_takeOne_137 : decode cX12_takeOne 137 = .ok (.iload 5, 2) := by decide +kernel
theorem dX12_takeOne_139 : decode cX12_takeOne 139 = .ok (.iload 6, 2) := by decide +kernel
theorem dX12_takeOne_141 : decode cX12_takeOne 141 = .ok (.iload 7, 2) := by decide +kernel
theorem dX12_takeOne_143 : decode cX12_takeOne 143 = .ok (.iload 8, 2) := by decide +kernel
theorem dX12_takeOne_145 : decode cX12_takeOne 145 = .ok (.iload_n 1, 1) := by decide +kernel
theorem dX12_takeOne_146 : decode cX12_takeOne 146 = .ok (.invokevirtual 169, 3) := by decide +kernel
theorem dX12_takeOne_149 : decode cX12_takeOne 149 = .ok (.ifCond .eq 7, 3) := by decide +kernel
theorem dX12_takeOne_152 : decode cX12_takeOne 152 = .ok (.iconst 0, 1) := by decide +kernel
theorem dX12_takeOne_153 : decode cX12_takeOne 153 = .ok (.goto 10, 3) := by decide +kernel
theorem dX12_takeOne_156 : decode cX12_takeOne 156 = .ok (.aload_n 0, 1) := by decide +kernel
theorem dX12_takeOne_157 : decode cX12_takeOne 157 = .ok (.getfield 7, 3) := by decide +kernel
theorem dX12_takeOne_160 : decode cX12_takeOne 160 = .ok (.iload 10, 2) := by decide +kernel
theorem dX12_takeOne_162 : decode cX12_takeOne 162 = .ok (.iaload, 1) := by decide +kernel
theorem dX12_takeOne_163 : decode cX12_takeOne 163 = .ok (.iastore, 1) := by decide +kernel
theorem dX12_takeOne_164 : decode cX12_takeOne 164 = .ok (.iinc 10 1, 3) := by decide +kernel
theorem dX12_takeOne_167 : decode cX12_takeOne 167 = .ok (.goto (-48), 3) := by decide +kernel
theorem dX12_takeOne_170 : decode cX12_takeOne 170 = .ok (.iconst 0, 1) := by decide +kernel
theorem dX12_takeOne_171 : decode cX12_takeOne 171 = .ok (.istore 10, 2) := by decide +kernel
theorem dX12_takeOne_173 : decode cX12_takeOne 173 = .ok (.iload 10, 2) := by decide +kernel
theorem dX12_takeOne_175 : decode cX12_takeOne 175 = .ok (.bipush 6, 2) := by decide +kernel
theorem dX12_takeOne_177 : decode cX12_takeOne 177 = .ok (.if_icmp .ge 34, 3) := by decide +kernel
theorem dX12_takeOne_180 : decode cX12_takeOne 180 = .ok (.aload_n 0, 1) := by decide +kernel
theorem dX12_takeOne_181 : decode cX12_takeOne 181 = .ok (.getfield 16, 3) := by decide +kernel
theorem dX12_takeOne_184 : decode cX12_takeOne 184 = .ok (.bipush 7, 2) := by decide +kernel
theorem dX12_takeOne_186 : decode cX12_takeOne 186 = .ok (.aload_n 0, 1) := by decide +kernel
theorem dX12_takeOne_187 : decode cX12_takeOne 187 = .ok (.getfield 7, 3) := by decide +kernel
theorem dX12_takeOne_190 : decode cX12_takeOne 190 = .ok (.sipush 144, 3) := by decide +kernel
theorem dX12_takeOne_193 : decode cX12_takeOne 193 = .ok (.iaload, 1) := by decide +kernel
theorem dX12_takeOne_194 : decode cX12_takeOne 194 = .ok (.imul, 1) := by decide +kernel
theorem dX12_takeOne_195 : decode cX12_takeOne 195 = .ok (.iload 10, 2) := by decide +kernel
theorem dX12_takeOne_197 : decode cX12_takeOne 197 = .ok (.iadd, 1) := by decide +kernel
theorem dX12_takeOne_198 : decode cX12_takeOne 198 = .ok (.iload_n 3, 1) := by decide +kernel
theorem dX12_takeOne_199 : decode cX12_takeOne 199 = .ok (.iload 10, 2) := by decide +kernel
theorem dX12_takeOne_201 : decode cX12_takeOne 201 = .ok (.invokestatic 196, 3) := by decide +kernel
theorem dX12_takeOne_204 : decode cX12_takeOne 204 = .ok (.iastore, 1) := by decide +kernel
theorem dX12_takeOne_205 : decode cX12_takeOne 205 = .ok (.iinc 10 1, 3) := by decide +kernel
theorem dX12_takeOne_208 : decode cX12_takeOne 208 = .ok (.goto (-35), 3) := by decide +kernel
theorem dX12_takeOne_211 : decode cX12_takeOne 211 = .ok (.aload_n 0, 1) := by decide +kernel
theorem dX12_takeOne_212 : decode cX12_takeOne 212 = .ok (.getfield 16, 3) := by decide +kernel
theorem dX12_takeOne_215 : decode cX12_takeOne 215 = .ok (.bipush 7, 2) := by decide +kernel
theorem dX12_takeOne_217 : decode cX12_takeOne 217 = .ok (.aload_n 0, 1) := by decide +kernel
theorem dX12_takeOne_218 : decode cX12_takeOne 218 = .ok (.getfield 7, 3) := by decide +kernel
theorem dX12_takeOne_221 : decode cX12_takeOne 221 = .ok (.sipush 144, 3) := by decide +kernel
theorem dX12_takeOne_224 : decode cX12_takeOne 224 = .ok (.iaload, 1) := by decide +kernel
theorem dX12_takeOne_225 : decode cX12_takeOne 225 = .ok (.imul, 1) := by decide +kernel
theorem dX12_takeOne_226 : decode cX12_takeOne 226 = .ok (.bipush 6, 2) := by decide +kernel
theorem dX12_takeOne_228 : decode cX12_takeOne 228 = .ok (.iadd, 1) := by decide +kernel
theorem dX12_takeOne_229 : decode cX12_takeOne 229 = .ok (.iload 9, 2) := by decide +kernel
theorem dX12_takeOne_231 : decode cX12_takeOne 231 = .ok (.iastore, 1) := by decide +kernel
theorem dX12_takeOne_232 : decode cX12_takeOne 232 = .ok (.aload_n 0, 1) := by decide +kernel
theorem dX12_takeOne_233 : decode cX12_takeOne 233 = .ok (.getfield 7, 3) := by decide +kernel
theorem dX12_takeOne_236 : decode cX12_takeOne 236 = .ok (.sipush 144, 3) := by decide +kernel
theorem dX12_takeOne_239 : decode cX12_takeOne 239 = .ok (.dup2, 1) := by decide +kernel
theorem dX12_takeOne_240 : decode cX12_takeOne 240 = .ok (.iaload, 1) := by decide +kernel
theorem dX12_takeOne_241 : decode cX12_takeOne 241 = .ok (.iconst 1, 1) := by decide +kernel
theorem dX12_takeOne_242 : decode cX12_takeOne 242 = .ok (.iadd, 1) := by decide +kernel
theorem dX12_takeOne_243 : decode cX12_takeOne 243 = .ok (.iastore, 1) := by decide +kernel
theorem dX12_takeOne_244 : decode cX12_takeOne 244 = .ok (.iload 9, 2) := by decide +kernel
theorem dX12_takeOne_246 : decode cX12_takeOne 246 = .ok (.ireturn, 1) := by decide +kernel
theorem dX12_isTaking_0 : decode cX12_isTaking 0 = .ok (.iload_n 0, 1) := by decide +kernel
theorem dX12_isTaking_1 : decode cX12_isTaking 1 = .ok (.iconst 0, 1) := by decide +kernel
theorem dX12_isTaking_2 : decode cX12_isTaking 2 = .ok (.iconst 3, 1) := by decide +kernel
theorem dX12_isTaking_3 : decode cX12_isTaking 3 = .ok (.invokestatic 58, 3) := by decide +kernel
theorem dX12_isTaking_6 : decode cX12_isTaking 6 = .ok (.ifCond .eq 18, 3) := by decide +kernel
theorem dX12_isTaking_9 : decode cX12_isTaking 9 = .ok (.iload_n 1, 1) := by decide +kernel
theorem dX12_isTaking_10 : decode cX12_isTaking 10 = .ok (.iconst 0, 1) := by decide +kernel
theorem dX12_isTaking_11 : decode cX12_isTaking 11 = .ok (.sipush 990, 3) := by decide +kernel
theorem dX12_isTaking_14 : decode cX12_isTaking 14 = .ok (.invokestatic 58, 3) := by decide +kernel
theorem dX12_isTaking_17 : decode cX12_isTaking 17 = .ok (.ifCond .eq 7, 3) := by decide +kernel
theorem dX12_isTaking_20 : decode cX12_isTaking 20 = .ok (.iconst 1, 1) := by decide +kernel
theorem dX12_isTaking_21 : decode cX12_isTaking 21 = .ok (.goto 4, 3) := by decide +kernel
theorem dX12_isTaking_24 : decode cX12_isTaking 24 = .ok (.iconst 0, 1) := by decide +kernel
theorem dX12_isTaking_25 : decode cX12_isTaking 25 = .ok (.ireturn, 1) := by decide +kernel
theorem dX12_take_0 : decode cX12_take 0 = .ok (.iload_n 1, 1) := by decide +kernel
theorem dX12_take_1 : decode cX12_take 1 = .ok (.iload_n 2, 1) := by decide +kernel
theorem dX12_take_2 : decode cX12_take 2 = .ok (.invokestatic 203, 3) := by decide +kernel
theorem dX12_take_5 : decode cX12_take 5 = .ok (.ifCond .eq 12, 3) := by decide +kernel
theorem dX12_take_8 : decode cX12_take 8 = .ok (.aload_n 0, 1) := by decide +kernel
theorem dX12_take_9 : decode cX12_take 9 = .ok (.iload_n 1, 1) := by decide +kernel
theorem dX12_take_10 : decode cX12_take 10 = .ok (.iload_n 2, 1) := by decide +kernel
theorem dX12_take_11 : decode cX12_take 11 = .ok (.invokevirtual 206, 3) := by decide +kernel
theorem dX12_take_14 : decode cX12_take 14 = .ok (.goto 4, 3) := by decide +kernel
theorem dX12_take_17 : decode cX12_take 17 = .ok (.iconst (-1), 1) := by decide +kernel
theorem dX12_take_18 : decode cX12_take 18 = .ok (.ireturn, 1) := by decide +kernel
theorem dX12_takes_0 : decode cX12_takes 0 = .ok (.iload_n 1, 1) := by decide +kernel
theorem dX12_takes_1 : decode cX12_takes 1 = .ok (.iload_n 2, 1) := by decide +kernel
theorem dX12_takes_2 : decode cX12_takes 2 = .ok (.invokestatic 203, 3) := by decide +kernel
theorem dX12_takes_5 : decode cX12_takes 5 = .ok (.ifCond .ne 5, 3) := by decide +kernel
theorem dX12_takes_8 : decode cX12_takes 8 = .ok (.iconst (-1), 1) := by decide +kernel
theorem dX12_takes_9 : decode cX12_takes 9 = .ok (.ireturn, 1) := by decide +kernel
theorem dX12_takes_10 : decode cX12_takes 10 = .ok (.iconst 0, 1) := by decide +kernel
theorem dX12_takes_11 : decode cX12_takes 11 = .ok (.istore_n 3, 1) := by decide +kernel
theorem dX12_takes_12 : decode cX12_takes 12 = .ok (.iload_n 3, 1) := by decide +kernel
theorem dX12_takes_13 : decode cX12_takes 13 = .ok (.bipush 8, 2) := by decide +kernel
theorem dX12_takes_15 : decode cX12_takes 15 = .ok (.if_icmp .ge 18, 3) := by decide +kernel
theorem dX12_takes_18 : decode cX12_takes 18 = .ok (.aload_n 0, 1) := by decide +kernel
theorem dX12_takes_19 : decode cX12_takes 19 = .ok (.iload_n 1, 1) := by decide +kernel
theorem dX12_takes_20 : decode cX12_takes 20 = .ok (.iload_n 2, 1) := by decide +kernel
theorem dX12_takes_21 : decode cX12_takes 21 = .ok (.invokevirtual 206, 3) := by decide +kernel
theorem dX12_takes_24 : decode cX12_takes 24 = .ok (.ifCond .le 9, 3) := by decide +kernel
theorem dX12_takes_27 : decode cX12_takes 27 = .ok (.iinc 3 1, 3) := by decide +kernel
theorem dX12_takes_30 : decode cX12_takes 30 = .ok (.goto (-18), 3) := by decide +kernel
theorem dX12_takes_33 : decode cX12_takes 33 = .ok (.iload_n 3, 1) := by decide +kernel
theorem dX12_takes_34 : decode cX12_takes 34 = .ok (.ireturn, 1) := by decide +kernel
theorem dX12_ledger_0 : decode cX12_ledger 0 = .ok (.iload_n 1, 1) := by decide +kernel
theorem dX12_ledger_1 : decode cX12_ledger 1 = .ok (.iconst (-1), 1) := by decide +kernel
theorem dX12_ledger_2 : decode cX12_ledger 2 = .ok (.if_icmp .lt 13, 3) := by decide +kernel
theorem dX12_ledger_5 : decode cX12_ledger 5 = .ok (.iload_n 2, 1) := by decide +kernel
theorem dX12_ledger_6 : decode cX12_ledger 6 = .ok (.iconst 0, 1) := by decide +kernel
theorem dX12_ledger_7 : decode cX12_ledger 7 = .ok (.bipush 6, 2) := by decide +kernel
theorem dX12_ledger_9 : decode cX12_ledger 9 = .ok (.invokestatic 58, 3) := by decide +kernel
theorem dX12_ledger_12 : decode cX12_ledger 12 = .ok (.ifCond .ne 5, 3) := by decide +kernel
theorem dX12_ledger_15 : decode cX12_ledger 15 = .ok (.iconst (-1), 1) := by decide +kernel
theorem dX12_ledger_16 : decode cX12_ledger 16 = .ok (.ireturn, 1) := by decide +kernel
theorem dX12_ledger_17 : decode cX12_ledger 17 = .ok (.iload_n 1, 1) := by decide +kernel
theorem dX12_ledger_18 : decode cX12_ledger 18 = .ok (.ifCond .ge 14, 3) := by decide +kernel
theorem dX12_ledger_21 : decode cX12_ledger 21 = .ok (.aload_n 0, 1) := by decide +kernel
theorem dX12_ledger_22 : decode cX12_ledger 22 = .ok (.getfield 7, 3) := by decide +kernel
theorem dX12_ledger_25 : decode cX12_ledger 25 = .ok (.sipush 144, 3) := by decide +kernel
theorem dX12_ledger_28 : decode cX12_ledger 28 = .ok (.iaload, 1) := by decide +kernel
theorem dX12_ledger_29 : decode cX12_ledger 29 = .ok (.goto 31, 3) := by decide +kernel
theorem dX12_ledger_32 : decode cX12_ledger 32 = .ok (.iload_n 1, 1) := by decide +kernel
theorem dX12_ledger_33 : decode cX12_ledger 33 = .ok (.aload_n 0, 1) := by decide +kernel
theorem dX12_ledger_34 : decode cX12_ledger 34 = .ok (.getfield 7, 3) := by decide +kernel
theorem dX12_ledger_37 : decode cX12_ledger 37 = .ok (.sipush 144, 3) := by decide +kernel
theorem dX12_ledger_40 : decode cX12_ledger 40 = .ok (.iaload, 1) := by decide +kernel
theorem dX12_ledger_41 : decode cX12_ledger 41 = .ok (.if_icmp .ge 17, 3) := by decide +kernel
theorem dX12_ledger_44 : decode cX12_ledger 44 = .ok (.aload_n 0, 1) := by decide +kernel
theorem dX12_ledger_45 : decode cX12_ledger 45 = .ok (.getfield 16, 3) := by decide +kernel
theorem dX12_ledger_48 : decode cX12_ledger 48 = .ok (.bipush 7, 2) := by decide +kernel
theorem dX12_ledger_50 : decode cX12_ledger 50 = .ok (.iload_n 1, 1) := by decide +kernel
theorem dX12_ledger_51 : decode cX12_ledger 51 = .ok (.imul, 1) := by decide +kernel
theorem dX12_ledger_52 : decode cX12_ledger 52 = .ok (.iload_n 2, 1) := by decide +kernel
theorem dX12_ledger_53 : decode cX12_ledger 53 = .ok (.iadd, 1) := by decide +kernel
theorem dX12_ledger_54 : decode cX12_ledger 54 = .ok (.iaload, 1) := by decide +kernel
theorem dX12_ledger_55 : decode cX12_ledger 55 = .ok (.goto 5, 3) := by decide +kernel
theorem dX12_ledger_58 : decode cX12_ledger 58 = .ok (.bipush (-4), 2) := by decide +kernel
theorem dX12_ledger_60 : decode cX12_ledger 60 = .ok (.ireturn, 1) := by decide +kernel
theorem dX12_count_0 : decode cX12_count 0 = .ok (.iload_n 1, 1) := by decide +kernel
theorem dX12_count_1 : decode cX12_count 1 = .ok (.tableswitch 126 0 10 #[59, 64, 69, 74, 83, 92, 101, 106, 111, 116, 121], 59) := by decide +kernel
theorem dX12_count_60 : decode cX12_count 60 = .ok (.aload_n 0, 1) := by decide +kernel
theorem dX12_count_61 : decode cX12_count 61 = .ok (.getfield 44, 3) := by decide +kernel
theorem dX12_count_64 : decode cX12_count 64 = .ok (.ireturn, 1) := by decide +kernel
theorem dX12_count_65 : decode cX12_count 65 = .ok (.aload_n 0, 1) := by decide +kernel
theorem dX12_count_66 : decode cX12_count 66 = .ok (.getfield 47, 3) := by decide +kernel
theorem dX12_count_69 : decode cX12_count 69 = .ok (.ireturn, 1) := by decide +kernel
theorem dX12_count_70 : decode cX12_count 70 = .ok (.aload_n 0, 1) := by decide +kernel
theorem dX12_count_71 : decode cX12_count 71 = .ok (.invokevirtual 114, 3) := by decide +kernel
theorem dX12_count_74 : decode cX12_count 74 = .ok (.ireturn, 1) := by decide +kernel
theorem dX12_count_75 : decode cX12_count 75 = .ok (.aload_n 0, 1) := by decide +kernel
theorem dX12_count_76 : decode cX12_count 76 = .ok (.getfield 7, 3) := by decide +kernel
theorem dX12_count_79 : decode cX12_count 79 = .ok (.sipush 141, 3) := by decide +kernel
theorem dX12_count_82 : decode cX12_count 82 = .ok (.iaload, 1) := by decide +kernel
theorem dX12_count_83 : decode cX12_count 83 = .ok (.ireturn, 1) := by decide +kernel
theorem dX12_count_84 : decode cX12_count 84 = .ok (.aload_n 0, 1) := by decide +kernel
theorem dX12_count_85 : decode cX12_count 85 = .ok (.getfield 7, 3) := by decide +kernel
theorem dX12_count_88 : decode cX12_count 88 = .ok (.sipush 142, 3) := by decide +kernel
theorem dX12_count_91 : decode cX12_count 91 = .ok (.iaload, 1) := by decide +kernel
theorem dX12_count_92 : decode cX12_count 92 = .ok (.ireturn, 1) := by decide +kernel
theorem dX12_count_93 : decode cX12_count 93 = .ok (.aload_n 0, 1) := by decide +kernel
theorem dX12_count_94 : decode cX12_count 94 = .ok (.getfield 7, 3) := by decide +kernel
theorem dX12_count_97 : decode cX12_count 97 = .ok (.sipush 143, 3) := by decide +kernel
theorem dX12_count_100 : decode cX12_count 100 = .ok (.iaload, 1) := by decide +kernel
theorem dX12_count_101 : decode cX12_count 101 = .ok (.ireturn, 1) := by decide +kernel
theorem dX12_count_102 : decode cX12_count 102 = .ok (.aload_n 0, 1) := by decide +kernel
theorem dX12_count_103 : decode cX12_count 103 = .ok (.getfield 105, 3) := by decide +kernel
theorem dX12_count_106 : decode cX12_count 106 = .ok (.ireturn, 1) := by decide +kernel
theorem dX12_count_107 : decode cX12_count 107 = .ok (.aload_n 0, 1) := by decide +kernel
theorem dX12_count_108 : decode cX12_count 108 = .ok (.getfield 62, 3) := by decide +kernel
theorem dX12_count_111 : decode cX12_count 111 = .ok (.ireturn, 1) := by decide +kernel
theorem dX12_count_112 : decode cX12_count 112 = .ok (.aload_n 0, 1) := by decide +kernel
theorem dX12_count_113 : decode cX12_count 113 = .ok (.getfield 19, 3) := by decide +kernel
theorem dX12_count_116 : decode cX12_count 116 = .ok (.ireturn, 1) := by decide +kernel
theorem dX12_count_117 : decode cX12_count 117 = .ok (.aload_n 0, 1) := by decide +kernel
theorem dX12_count_118 : decode cX12_count 118 = .ok (.getfield 108, 3) := by decide +kernel
theorem dX12_count_121 : decode cX12_count 121 = .ok (.ireturn, 1) := by decide +kernel
theorem dX12_count_122 : decode cX12_count 122 = .ok (.aload_n 0, 1) := by decide +kernel
theorem dX12_count_123 : decode cX12_count 123 = .ok (.getfield 111, 3) := by decide +kernel
theorem dX12_count_126 : decode cX12_count 126 = .ok (.ireturn, 1) := by decide +kernel
theorem dX12_count_127 : decode cX12_count 127 = .ok (.iconst (-1), 1) := by decide +kernel
theorem dX12_count_128 : decode cX12_count 128 = .ok (.ireturn, 1) := by decide +kernel
theorem dJ6_bitCount_0f7a4_0 : decode cJ6_bitCount_0f7a4 0 = .ok (.iload_n 0, 1) := by decide +kernel
theorem dJ6_bitCount_0f7a4_1 : decode cJ6_bitCount_0f7a4 1 = .ok (.iload_n 0, 1) := by decide +kernel
theorem dJ6_bitCount_0f7a4_2 : decode cJ6_bitCount_0f7a4 2 = .ok (.iconst 1, 1) := by decide +kernel
theorem dJ6_bitCount_0f7a4_3 : decode cJ6_bitCount_0f7a4 3 = .ok (.iushr, 1) := by decide +kernel
theorem dJ6_bitCount_0f7a4_4 : decode cJ6_bitCount_0f7a4 4 = .ok (.ldc_w 265, 3) := by decide +kernel
theorem dJ6_bitCount_0f7a4_7 : decode cJ6_bitCount_0f7a4 7 = .ok (.iand, 1) := by decide +kernel
theorem dJ6_bitCount_0f7a4_8 : decode cJ6_bitCount_0f7a4 8 = .ok (.isub, 1) := by decide +kernel
theorem dJ6_bitCount_0f7a4_9 : decode cJ6_bitCount_0f7a4 9 = .ok (.istore_n 0, 1) := by decide +kernel
theorem dJ6_bitCount_0f7a4_10 : decode cJ6_bitCount_0f7a4 10 = .ok (.iload_n 0, 1) := by decide +kernel
theorem dJ6_bitCount_0f7a4_11 : decode cJ6_bitCount_0f7a4 11 = .ok (.ldc_w 266, 3) := by decide +kernel
theorem dJ6_bitCount_0f7a4_14 : decode cJ6_bitCount_0f7a4 14 = .ok (.iand, 1) := by decide +kernel
theorem dJ6_bitCount_0f7a4_15 : decode cJ6_bitCount_0f7a4 15 = .ok (.iload_n 0, 1) := by decide +kernel
theorem dJ6_bitCount_0f7a4_16 : decode cJ6_bitCount_0f7a4 16 = .ok (.iconst 2, 1) := by decide +kernel
theorem dJ6_bitCount_0f7a4_17 : decode cJ6_bitCount_0f7a4 17 = .ok (.iushr, 1) := by decide +kernel
theorem dJ6_bitCount_0f7a4_18 : decode cJ6_bitCount_0f7a4 18 = .ok (.ldc_w 266, 3) := by decide +kernel
end
section
theorem dJ6_bitCount_0f7a4_21 : decode cJ6_bitCount_0f7a4 21 = .ok (.iand, 1) := by decide +kernel
theorem dJ6_bitCount_0f7a4_22 : decode cJ6_bitCount_0f7a4 22 = .ok (.iadd, 1) := by decide +kernel
theorem dJ6_bitCount_0f7a4_23 : decode cJ6_bitCount_0f7a4 23 = .ok (.istore_n 0, 1) := by decide +kernel
theorem dJ6_bitCount_0f7a4_24 : decode cJ6_bitCount_0f7a4 24 = .ok (.iload_n 0, 1) := by decide +kernel
theorem dJ6_bitCount_0f7a4_25 : decode cJ6_bitCount_0f7a4 25 = .ok (.iload_n 0, 1) := by decide +kernel
theorem dJ6_bitCount_0f7a4_26 : decode cJ6_bitCount_0f7a4 26 = .ok (.iconst 4, 1) := by decide +kernel
theorem dJ6_bitCount_0f7a4_27 : decode cJ6_bitCount_0f7a4 27 = .ok (.iushr, 1) := by decide +kernel
theorem dJ6_bitCount_0f7a4_28 : decode cJ6_bitCount_0f7a4 28 = .ok (.iadd, 1) := by decide +kernel
theorem dJ6_bitCount_0f7a4_29 : decode cJ6_bitCount_0f7a4 29 = .ok (.ldc_w 267, 3) := by decide +kernel
theorem dJ6_bitCount_0f7a4_32 : decode cJ6_bitCount_0f7a4 32 = .ok (.iand, 1) := by decide +kernel
theorem dJ6_bitCount_0f7a4_33 : decode cJ6_bitCount_0f7a4 33 = .ok (.istore_n 0, 1) := by decide +kernel
theorem dJ6_bitCount_0f7a4_34 : decode cJ6_bitCount_0f7a4 34 = .ok (.iload_n 0, 1) := by decide +kernel
theorem dJ6_bitCount_0f7a4_35 : decode cJ6_bitCount_0f7a4 35 = .ok (.iload_n 0, 1) := by decide +kernel
theorem dJ6_bitCount_0f7a4_36 : decode cJ6_bitCount_0f7a4 36 = .ok (.bipush 8, 2) := by decide +kernel
theorem dJ6_bitCount_0f7a4_38 : decode cJ6_bitCount_0f7a4 38 = .ok (.iushr, 1) := by decide +kernel
theorem dJ6_bitCount_0f7a4_39 : decode cJ6_bitCount_0f7a4 39 = .ok (.iadd, 1) := by decide +kernel
theorem dJ6_bitCount_0f7a4_40 : decode cJ6_bitCount_0f7a4 40 = .ok (.istore_n 0, 1) := by decide +kernel
theorem dJ6_bitCount_0f7a4_41 : decode cJ6_bitCount_0f7a4 41 = .ok (.iload_n 0, 1) := by decide +kernel
theorem dJ6_bitCount_0f7a4_42 : decode cJ6_bitCount_0f7a4 42 = .ok (.iload_n 0, 1) := by decide +kernel
theorem dJ6_bitCount_0f7a4_43 : decode cJ6_bitCount_0f7a4 43 = .ok (.bipush 16, 2) := by decide +kernel
theorem dJ6_bitCount_0f7a4_45 : decode cJ6_bitCount_0f7a4 45 = .ok (.iushr, 1) := by decide +kernel
theorem dJ6_bitCount_0f7a4_46 : decode cJ6_bitCount_0f7a4 46 = .ok (.iadd, 1) := by decide +kernel
theorem dJ6_bitCount_0f7a4_47 : decode cJ6_bitCount_0f7a4 47 = .ok (.istore_n 0, 1) := by decide +kernel
theorem dJ6_bitCount_0f7a4_48 : decode cJ6_bitCount_0f7a4 48 = .ok (.iload_n 0, 1) := by decide +kernel
theorem dJ6_bitCount_0f7a4_49 : decode cJ6_bitCount_0f7a4 49 = .ok (.bipush 63, 2) := by decide +kernel
theorem dJ6_bitCount_0f7a4_51 : decode cJ6_bitCount_0f7a4 51 = .ok (.iand, 1) := by decide +kernel
theorem dJ6_bitCount_0f7a4_52 : decode cJ6_bitCount_0f7a4 52 = .ok (.ireturn, 1) := by decide +kernel
theorem dJ9_floorDiv_7cf53_0 : decode cJ9_floorDiv_7cf53 0 = .ok (.iload_n 0, 1) := by decide +kernel
theorem dJ9_floorDiv_7cf53_1 : decode cJ9_floorDiv_7cf53 1 = .ok (.iload_n 1, 1) := by decide +kernel
theorem dJ9_floorDiv_7cf53_2 : decode cJ9_floorDiv_7cf53 2 = .ok (.idiv, 1) := by decide +kernel
theorem dJ9_floorDiv_7cf53_3 : decode cJ9_floorDiv_7cf53 3 = .ok (.istore_n 2, 1) := by decide +kernel
theorem dJ9_floorDiv_7cf53_4 : decode cJ9_floorDiv_7cf53 4 = .ok (.iload_n 0, 1) := by decide +kernel
theorem dJ9_floorDiv_7cf53_5 : decode cJ9_floorDiv_7cf53 5 = .ok (.iload_n 1, 1) := by decide +kernel
theorem dJ9_floorDiv_7cf53_6 : decode cJ9_floorDiv_7cf53 6 = .ok (.ixor, 1) := by decide +kernel
theorem dJ9_floorDiv_7cf53_7 : decode cJ9_floorDiv_7cf53 7 = .ok (.ifCond .ge 14, 3) := by decide +kernel
theorem dJ9_floorDiv_7cf53_10 : decode cJ9_floorDiv_7cf53 10 = .ok (.iload_n 2, 1) := by decide +kernel
theorem dJ9_floorDiv_7cf53_11 : decode cJ9_floorDiv_7cf53 11 = .ok (.iload_n 1, 1) := by decide +kernel
theorem dJ9_floorDiv_7cf53_12 : decode cJ9_floorDiv_7cf53 12 = .ok (.imul, 1) := by decide +kernel
theorem dJ9_floorDiv_7cf53_13 : decode cJ9_floorDiv_7cf53 13 = .ok (.iload_n 0, 1) := by decide +kernel
theorem dJ9_floorDiv_7cf53_14 : decode cJ9_floorDiv_7cf53 14 = .ok (.if_icmp .eq 7, 3) := by decide +kernel
theorem dJ9_floorDiv_7cf53_17 : decode cJ9_floorDiv_7cf53 17 = .ok (.iload_n 2, 1) := by decide +kernel
theorem dJ9_floorDiv_7cf53_18 : decode cJ9_floorDiv_7cf53 18 = .ok (.iconst 1, 1) := by decide +kernel
theorem dJ9_floorDiv_7cf53_19 : decode cJ9_floorDiv_7cf53 19 = .ok (.isub, 1) := by decide +kernel
theorem dJ9_floorDiv_7cf53_20 : decode cJ9_floorDiv_7cf53 20 = .ok (.ireturn, 1) := by decide +kernel
theorem dJ9_floorDiv_7cf53_21 : decode cJ9_floorDiv_7cf53 21 = .ok (.iload_n 2, 1) := by decide +kernel
theorem dJ9_floorDiv_7cf53_22 : decode cJ9_floorDiv_7cf53 22 = .ok (.ireturn, 1) := by decide +kernel
theorem dJ9_abs_0f7a4_0 : decode cJ9_abs_0f7a4 0 = .ok (.iload_n 0, 1) := by decide +kernel
theorem dJ9_abs_0f7a4_1 : decode cJ9_abs_0f7a4 1 = .ok (.ifCond .ge 8, 3) := by decide +kernel
theorem dJ9_abs_0f7a4_4 : decode cJ9_abs_0f7a4 4 = .ok (.iload_n 0, 1) := by decide +kernel
theorem dJ9_abs_0f7a4_5 : decode cJ9_abs_0f7a4 5 = .ok (.ineg, 1) := by decide +kernel
theorem dJ9_abs_0f7a4_6 : decode cJ9_abs_0f7a4 6 = .ok (.goto 4, 3) := by decide +kernel
theorem dJ9_abs_0f7a4_9 : decode cJ9_abs_0f7a4 9 = .ok (.iload_n 0, 1) := by decide +kernel
theorem dJ9_abs_0f7a4_10 : decode cJ9_abs_0f7a4 10 = .ok (.ireturn, 1) := by decide +kernel
theorem dJ9_max_7cf53_0 : decode cJ9_max_7cf53 0 = .ok (.iload_n 0, 1) := by decide +kernel
theorem dJ9_max_7cf53_1 : decode cJ9_max_7cf53 1 = .ok (.iload_n 1, 1) := by decide +kernel
theorem dJ9_max_7cf53_2 : decode cJ9_max_7cf53 2 = .ok (.if_icmp .lt 7, 3) := by decide +kernel
theorem dJ9_max_7cf53_5 : decode cJ9_max_7cf53 5 = .ok (.iload_n 0, 1) := by decide +kernel
theorem dJ9_max_7cf53_6 : decode cJ9_max_7cf53 6 = .ok (.goto 4, 3) := by decide +kernel
theorem dJ9_max_7cf53_9 : decode cJ9_max_7cf53 9 = .ok (.iload_n 1, 1) := by decide +kernel
theorem dJ9_max_7cf53_10 : decode cJ9_max_7cf53 10 = .ok (.ireturn, 1) := by decide +kernel
theorem dJ9_min_7cf53_0 : decode cJ9_min_7cf53 0 = .ok (.iload_n 0, 1) := by decide +kernel
theorem dJ9_min_7cf53_1 : decode cJ9_min_7cf53 1 = .ok (.iload_n 1, 1) := by decide +kernel
theorem dJ9_min_7cf53_2 : decode cJ9_min_7cf53 2 = .ok (.if_icmp .gt 7, 3) := by decide +kernel
theorem dJ9_min_7cf53_5 : decode cJ9_min_7cf53 5 = .ok (.iload_n 0, 1) := by decide +kernel
theorem dJ9_min_7cf53_6 : decode cJ9_min_7cf53 6 = .ok (.goto 4, 3) := by decide +kernel
theorem dJ9_min_7cf53_9 : decode cJ9_min_7cf53 9 = .ok (.iload_n 1, 1) := by decide +kernel
theorem dJ9_min_7cf53_10 : decode cJ9_min_7cf53 10 = .ok (.ireturn, 1) := by decide +kernel
theorem dJ0_length_8abf5_0 : decode cJ0_length_8abf5 0 = .ok (.aload_n 0, 1) := by decide +kernel
theorem dJ0_length_8abf5_1 : decode cJ0_length_8abf5 1 = .ok (.getfield 9, 3) := by decide +kernel
theorem dJ0_length_8abf5_4 : decode cJ0_length_8abf5 4 = .ok (.arraylength, 1) := by decide +kernel
theorem dJ0_length_8abf5_5 : decode cJ0_length_8abf5 5 = .ok (.aload_n 0, 1) := by decide +kernel
theorem dJ0_length_8abf5_6 : decode cJ0_length_8abf5 6 = .ok (.invokevirtual 335, 3) := by decide +kernel
theorem dJ0_length_8abf5_9 : decode cJ0_length_8abf5 9 = .ok (.ishr, 1) := by decide +kernel
theorem dJ0_length_8abf5_10 : decode cJ0_length_8abf5 10 = .ok (.ireturn, 1) := by decide +kernel
theorem dJ0_charAt_5068e_0 : decode cJ0_charAt_5068e 0 = .ok (.aload_n 0, 1) := by decide +kernel
theorem dJ0_charAt_5068e_1 : decode cJ0_charAt_5068e 1 = .ok (.invokevirtual 492, 3) := by decide +kernel
theorem dJ0_charAt_5068e_4 : decode cJ0_charAt_5068e 4 = .ok (.ifCond .eq 12, 3) := by decide +kernel
theorem dJ0_charAt_5068e_7 : decode cJ0_charAt_5068e 7 = .ok (.aload_n 0, 1) := by decide +kernel
theorem dJ0_charAt_5068e_8 : decode cJ0_charAt_5068e 8 = .ok (.getfield 9, 3) := by decide +kernel
theorem dJ0_charAt_5068e_11 : decode cJ0_charAt_5068e 11 = .ok (.iload_n 1, 1) := by decide +kernel
theorem dJ0_charAt_5068e_12 : decode cJ0_charAt_5068e 12 = .ok (.invokestatic 495, 3) := by decide +kernel
theorem dJ0_charAt_5068e_15 : decode cJ0_charAt_5068e 15 = .ok (.ireturn, 1) := by decide +kernel
theorem dJ0_charAt_5068e_16 : decode cJ0_charAt_5068e 16 = .ok (.aload_n 0, 1) := by decide +kernel
theorem dJ0_charAt_5068e_17 : decode cJ0_charAt_5068e 17 = .ok (.getfield 9, 3) := by decide +kernel
theorem dJ0_charAt_5068e_20 : decode cJ0_charAt_5068e 20 = .ok (.iload_n 1, 1) := by decide +kernel
theorem dJ0_charAt_5068e_21 : decode cJ0_charAt_5068e 21 = .ok (.invokestatic 498, 3) := by decide +kernel
theorem dJ0_charAt_5068e_24 : decode cJ0_charAt_5068e 24 = .ok (.ireturn, 1) := by decide +kernel
theorem dJ0_coder_7d493_0 : decode cJ0_coder_7d493 0 = .ok (.getstatic 38, 3) := by decide +kernel
theorem dJ0_coder_7d493_3 : decode cJ0_coder_7d493 3 = .ok (.ifCond .eq 10, 3) := by decide +kernel
theorem dJ0_coder_7d493_6 : decode cJ0_coder_7d493 6 = .ok (.aload_n 0, 1) := by decide +kernel
theorem dJ0_coder_7d493_7 : decode cJ0_coder_7d493 7 = .ok (.getfield 15, 3) := by decide +kernel
theorem dJ0_coder_7d493_10 : decode cJ0_coder_7d493 10 = .ok (.goto 4, 3) := by decide +kernel
theorem dJ0_coder_7d493_13 : decode cJ0_coder_7d493 13 = .ok (.iconst 1, 1) := by decide +kernel
theorem dJ0_coder_7d493_14 : decode cJ0_coder_7d493 14 = .ok (.ireturn, 1) := by decide +kernel
theorem dJ0_isLatin1_aae02_0 : decode cJ0_isLatin1_aae02 0 = .ok (.getstatic 38, 3) := by decide +kernel
theorem dJ0_isLatin1_aae02_3 : decode cJ0_isLatin1_aae02 3 = .ok (.ifCond .eq 14, 3) := by decide +kernel
theorem dJ0_isLatin1_aae02_6 : decode cJ0_isLatin1_aae02 6 = .ok (.aload_n 0, 1) := by decide +kernel
theorem dJ0_isLatin1_aae02_7 : decode cJ0_isLatin1_aae02 7 = .ok (.getfield 15, 3) := by decide +kernel
theorem dJ0_isLatin1_aae02_10 : decode cJ0_isLatin1_aae02 10 = .ok (.ifCond .ne 7, 3) := by decide +kernel
theorem dJ0_isLatin1_aae02_13 : decode cJ0_isLatin1_aae02 13 = .ok (.iconst 1, 1) := by decide +kernel
theorem dJ0_isLatin1_aae02_14 : decode cJ0_isLatin1_aae02 14 = .ok (.goto 4, 3) := by decide +kernel
theorem dJ0_isLatin1_aae02_17 : decode cJ0_isLatin1_aae02 17 = .ok (.iconst 0, 1) := by decide +kernel
theorem dJ0_isLatin1_aae02_18 : decode cJ0_isLatin1_aae02 18 = .ok (.ireturn, 1) := by decide +kernel
theorem dJ0_checkIndex_df160_0 : decode cJ0_checkIndex_df160 0 = .ok (.iload_n 0, 1) := by decide +kernel
theorem dJ0_checkIndex_df160_1 : decode cJ0_checkIndex_df160 1 = .ok (.iload_n 1, 1) := by decide +kernel
theorem dJ0_checkIndex_df160_2 : decode cJ0_checkIndex_df160 2 = .ok (.getstatic 1053, 3) := by decide +kernel
theorem dJ0_checkIndex_df160_5 : decode cJ0_checkIndex_df160 5 = .ok (.invokestatic 1059, 3) := by decide +kernel
theorem dJ0_checkIndex_df160_8 : decode cJ0_checkIndex_df160 8 = .ok (.pop, 1) := by decide +kernel
theorem dJ0_checkIndex_df160_9 : decode cJ0_checkIndex_df160 9 = .ok (.return_, 1) := by decide +kernel
theorem dJ1_charAt_3b067_0 : decode cJ1_charAt_3b067 0 = .ok (.iload_n 1, 1) := by decide +kernel
theorem dJ1_charAt_3b067_1 : decode cJ1_charAt_3b067 1 = .ok (.aload_n 0, 1) := by decide +kernel
theorem dJ1_charAt_3b067_2 : decode cJ1_charAt_3b067 2 = .ok (.arraylength, 1) := by decide +kernel
theorem dJ1_charAt_3b067_3 : decode cJ1_charAt_3b067 3 = .ok (.invokestatic 9, 3) := by decide +kernel
theorem dJ1_charAt_3b067_6 : decode cJ1_charAt_3b067 6 = .ok (.aload_n 0, 1) := by decide +kernel
theorem dJ1_charAt_3b067_7 : decode cJ1_charAt_3b067 7 = .ok (.iload_n 1, 1) := by decide +kernel
theorem dJ1_charAt_3b067_8 : decode cJ1_charAt_3b067 8 = .ok (.baload, 1) := by decide +kernel
theorem dJ1_charAt_3b067_9 : decode cJ1_charAt_3b067 9 = .ok (.sipush 255, 3) := by decide +kernel
theorem dJ1_charAt_3b067_12 : decode cJ1_charAt_3b067 12 = .ok (.iand, 1) := by decide +kernel
theorem dJ1_charAt_3b067_13 : decode cJ1_charAt_3b067 13 = .ok (.i2c, 1) := by decide +kernel
theorem dJ1_charAt_3b067_14 : decode cJ1_charAt_3b067 14 = .ok (.ireturn, 1) := by decide +kernel
theorem dJ2_getChar_3b067_0 : decode cJ2_getChar_3b067 0 = .ok (.getstatic 44, 3) := by decide +kernel
theorem dJ2_getChar_3b067_3 : decode cJ2_getChar_3b067 3 = .ok (.ifCond .ne 25, 3) := by decide +kernel
theorem dJ2_getChar_3b067_6 : decode cJ2_getChar_3b067 6 = .ok (.iload_n 1, 1) := by decide +kernel
theorem dJ2_getChar_3b067_7 : decode cJ2_getChar_3b067 7 = .ok (.ifCond .lt 11, 3) := by decide +kernel
theorem dJ2_getChar_3b067_10 : decode cJ2_getChar_3b067 10 = .ok (.iload_n 1, 1) := by decide +kernel
theorem dJ2_getChar_3b067_11 : decode cJ2_getChar_3b067 11 = .ok (.aload_n 0, 1) := by decide +kernel
theorem dJ2_getChar_3b067_12 : decode cJ2_getChar_3b067 12 = .ok (.invokestatic 48, 3) := by decide +kernel
theorem dJ2_getChar_3b067_15 : decode cJ2_getChar_3b067 15 = .ok (.if_icmp .lt 13, 3) := by decide +kernel
theorem dJ2_getChar_3b067_18 : decode cJ2_getChar_3b067 18 = .ok (.new 52, 3) := by decide +kernel
theorem dJ2_getChar_3b067_21 : decode cJ2_getChar_3b067 21 = .ok (.dup, 1) := by decide +kernel
theorem dJ2_getChar_3b067_22 : decode cJ2_getChar_3b067 22 = .ok (.ldc 54, 2) := by decide +kernel
theorem dJ2_getChar_3b067_24 : decode cJ2_getChar_3b067 24 = .ok (.invokespecial 56, 3) := by decide +kernel
theorem dJ2_getChar_3b067_27 : decode cJ2_getChar_3b067 27 = .ok (.athrow, 1) := by decide +kernel
theorem dJ2_getChar_3b067_28 : decode cJ2_getChar_3b067 28 = .ok (.iload_n 1, 1) := by decide +kernel
theorem dJ2_getChar_3b067_29 : decode cJ2_getChar_3b067 29 = .ok (.iconst 1, 1) := by decide +kernel
theorem dJ2_getChar_3b067_30 : decode cJ2_getChar_3b067 30 = .ok (.ishl, 1) := by decide +kernel
theorem dJ2_getChar_3b067_31 : decode cJ2_getChar_3b067 31 = .ok (.istore_n 1, 1) := by decide +kernel
theorem dJ2_getChar_3b067_32 : decode cJ2_getChar_3b067 32 = .ok (.aload_n 0, 1) := by decide +kernel
theorem dJ2_getChar_3b067_33 : decode cJ2_getChar_3b067 33 = .ok (.iload_n 1, 1) := by decide +kernel
theorem dJ2_getChar_3b067_34 : decode cJ2_getChar_3b067 34 = .ok (.iinc 1 1, 3) := by decide +kernel
theorem dJ2_getChar_3b067_37 : decode cJ2_getChar_3b067 37 = .ok (.baload, 1) := by decide +kernel
theorem dJ2_getChar_3b067_38 : decode cJ2_getChar_3b067 38 = .ok (.sipush 255, 3) := by decide +kernel
theorem dJ2_getChar_3b067_41 : decode cJ2_getChar_3b067 41 = .ok (.iand, 1) := by decide +kernel
theorem dJ2_getChar_3b067_42 : decode cJ2_getChar_3b067 42 = .ok (.getstatic 59, 3) := by decide +kernel
theorem dJ2_getChar_3b067_45 : decode cJ2_getChar_3b067 45 = .ok (.ishl, 1) := by decide +kernel
theorem dJ2_getChar_3b067_46 : decode cJ2_getChar_3b067 46 = .ok (.aload_n 0, 1) := by decide +kernel
theorem dJ2_getChar_3b067_47 : decode cJ2_getChar_3b067 47 = .ok (.iload_n 1, 1) := by decide +kernel
theorem dJ2_getChar_3b067_48 : decode cJ2_getChar_3b067 48 = .ok (.baload, 1) := by decide +kernel
theorem dJ2_getChar_3b067_49 : decode cJ2_getChar_3b067 49 = .ok (.sipush 255, 3) := by decide +kernel
theorem dJ2_getChar_3b067_52 : decode cJ2_getChar_3b067 52 = .ok (.iand, 1) := by decide +kernel
theorem dJ2_getChar_3b067_53 : decode cJ2_getChar_3b067 53 = .ok (.getstatic 63, 3) := by decide +kernel
theorem dJ2_getChar_3b067_56 : decode cJ2_getChar_3b067 56 = .ok (.ishl, 1) := by decide +kernel
theorem dJ2_getChar_3b067_57 : decode cJ2_getChar_3b067 57 = .ok (.ior, 1) := by decide +kernel
theorem dJ2_getChar_3b067_58 : decode cJ2_getChar_3b067 58 = .ok (.i2c, 1) := by decide +kernel
theorem dJ2_getChar_3b067_59 : decode cJ2_getChar_3b067 59 = .ok (.ireturn, 1) := by decide +kernel
theorem dJ2_length_9d52b_0 : decode cJ2_length_9d52b 0 = .ok (.aload_n 0, 1) := by decide +kernel
theorem dJ2_length_9d52b_1 : decode cJ2_length_9d52b 1 = .ok (.arraylength, 1) := by decide +kernel
theorem dJ2_length_9d52b_2 : decode cJ2_length_9d52b 2 = .ok (.iconst 1, 1) := by decide +kernel
theorem dJ2_length_9d52b_3 : decode cJ2_length_9d52b 3 = .ok (.ishr, 1) := by decide +kernel
theorem dJ2_length_9d52b_4 : decode cJ2_length_9d52b 4 = .ok (.ireturn, 1) := by decide +kernel
theorem dJ2_charAt_3b067_0 : decode cJ2_charAt_3b067 0 = .ok (.iload_n 1, 1) := by decide +kernel
theorem dJ2_charAt_3b067_1 : decode cJ2_charAt_3b067 1 = .ok (.aload_n 0, 1) := by decide +kernel
theorem dJ2_charAt_3b067_2 : decode cJ2_charAt_3b067 2 = .ok (.invokestatic 67, 3) := by decide +kernel
theorem dJ2_charAt_3b067_5 : decode cJ2_charAt_3b067 5 = .ok (.aload_n 0, 1) := by decide +kernel
theorem dJ2_charAt_3b067_6 : decode cJ2_charAt_3b067 6 = .ok (.iload_n 1, 1) := by decide +kernel
theorem dJ2_charAt_3b067_7 : decode cJ2_charAt_3b067 7 = .ok (.invokestatic 71, 3) := by decide +kernel
theorem dJ2_charAt_3b067_10 : decode cJ2_charAt_3b067 10 = .ok (.ireturn, 1) := by decide +kernel
theorem dJ2_checkIndex_2214a_0 : decode cJ2_checkIndex_2214a 0 = .ok (.iload_n 0, 1) := by decide +kernel
theorem dJ2_checkIndex_2214a_1 : decode cJ2_checkIndex_2214a 1 = .ok (.aload_n 1, 1) := by decide +kernel
theorem dJ2_checkIndex_2214a_2 : decode cJ2_checkIndex_2214a 2 = .ok (.invokestatic 48, 3) := by decide +kernel
theorem dJ2_checkIndex_2214a_5 : decode cJ2_checkIndex_2214a 5 = .ok (.invokestatic 414, 3) := by decide +kernel
theorem dJ2_checkIndex_2214a_8 : decode cJ2_checkIndex_2214a 8 = .ok (.return_, 1) := by decide +kernel
theorem dJ3_checkIndex_8e157_0 : decode cJ3_checkIndex_8e157 0 = .ok (.iload_n 0, 1) := by decide +kernel
theorem dJ3_checkIndex_8e157_1 : decode cJ3_checkIndex_8e157 1 = .ok (.ifCond .lt 8, 3) := by decide +kernel
theorem dJ3_checkIndex_8e157_4 : decode cJ3_checkIndex_8e157 4 = .ok (.iload_n 0, 1) := by decide +kernel
theorem dJ3_checkIndex_8e157_5 : decode cJ3_checkIndex_8e157 5 = .ok (.iload_n 1, 1) := by decide +kernel
theorem dJ3_checkIndex_8e157_6 : decode cJ3_checkIndex_8e157 6 = .ok (.if_icmp .lt 10, 3) := by decide +kernel
theorem dJ3_checkIndex_8e157_9 : decode cJ3_checkIndex_8e157 9 = .ok (.aload_n 2, 1) := by decide +kernel
theorem dJ3_checkIndex_8e157_10 : decode cJ3_checkIndex_8e157 10 = .ok (.iload_n 0, 1) := by decide +kernel
theorem dJ3_checkIndex_8e157_11 : decode cJ3_checkIndex_8e157 11 = .ok (.iload_n 1, 1) := by decide +kernel
theorem dJ3_checkIndex_8e157_12 : decode cJ3_checkIndex_8e157 12 = .ok (.invokestatic 95, 3) := by decide +kernel
theorem dJ3_checkIndex_8e157_15 : decode cJ3_checkIndex_8e157 15 = .ok (.athrow, 1) := by decide +kernel
theorem dJ3_checkIndex_8e157_16 : decode cJ3_checkIndex_8e157 16 = .ok (.iload_n 0, 1) := by decide +kernel
theorem dJ3_checkIndex_8e157_17 : decode cJ3_checkIndex_8e157 17 = .ok (.ireturn, 1) := by decide +kernel
theorem dL_law_0 : decode cL_law 0 = .ok (.new 7, 3) := by decide +kernel
theorem dL_law_3 : decode cL_law 3 = .ok (.dup, 1) := by decide +kernel
theorem dL_law_4 : decode cL_law 4 = .ok (.invokespecial 9, 3) := by decide +kernel
theorem dL_law_7 : decode cL_law 7 = .ok (.astore_n 1, 1) := by decide +kernel
theorem dL_law_8 : decode cL_law 8 = .ok (.new 10, 3) := by decide +kernel
theorem dL_law_11 : decode cL_law 11 = .ok (.dup, 1) := by decide +kernel
theorem dL_law_12 : decode cL_law 12 = .ok (.invokespecial 12, 3) := by decide +kernel
theorem dL_law_15 : decode cL_law 15 = .ok (.astore_n 2, 1) := by decide +kernel
theorem dL_law_16 : decode cL_law 16 = .ok (.iconst 0, 1) := by decide +kernel
theorem dL_law_17 : decode cL_law 17 = .ok (.istore_n 3, 1) := by decide +kernel
theorem dL_law_18 : decode cL_law 18 = .ok (.iload_n 3, 1) := by decide +kernel
theorem dL_law_19 : decode cL_law 19 = .ok (.aload_n 0, 1) := by decide +kernel
theorem dL_law_20 : decode cL_law 20 = .ok (.arraylength, 1) := by decide +kernel
theorem dL_law_21 : decode cL_law 21 = .ok (.iconst 4, 1) := by decide +kernel
theorem dL_law_22 : decode cL_law 22 = .ok (.isub, 1) := by decide +kernel
theorem dL_law_23 : decode cL_law 23 = .ok (.if_icmp .gt 876, 3) := by decide +kernel
theorem dL_law_26 : decode cL_law 26 = .ok (.aload_n 0, 1) := by decide +kernel
theorem dL_law_27 : decode cL_law 27 = .ok (.iload_n 3, 1) := by decide +kernel
theorem dL_law_28 : decode cL_law 28 = .ok (.iaload, 1) := by decide +kernel
theorem dL_law_29 : decode cL_law 29 = .ok (.bipush 31, 2) := by decide +kernel
theorem dL_law_31 : decode cL_law 31 = .ok (.iand, 1) := by decide +kernel
theorem dL_law_32 : decode cL_law 32 = .ok (.tableswitch 861 0 24 #[116, 139, 152, 165, 178, 221, 254, 277, 310, 323, 356, 389, 422, 445, 488, 521, 564, 577, 620, 663, 696, 739, 772, 805, 838], 116) := by decide +kernel
theorem dL_law_148 : decode cL_law 148 = .ok (.aload_n 1, 1) := by decide +kernel
theorem dL_law_149 : decode cL_law 149 = .ok (.aload_n 0, 1) := by decide +kernel
theorem dL_law_150 : decode cL_law 150 = .ok (.iload_n 3, 1) := by decide +kernel
theorem dL_law_151 : decode cL_law 151 = .ok (.iconst 1, 1) := by decide +kernel
theorem dL_law_152 : decode cL_law 152 = .ok (.iadd, 1) := by decide +kernel
theorem dL_law_153 : decode cL_law 153 = .ok (.iaload, 1) := by decide +kernel
theorem dL_law_154 : decode cL_law 154 = .ok (.invokevirtual 13, 3) := by decide +kernel
theorem dL_law_157 : decode cL_law 157 = .ok (.aload_n 2, 1) := by decide +kernel
theorem dL_law_158 : decode cL_law 158 = .ok (.aload_n 0, 1) := by decide +kernel
theorem dL_law_159 : decode cL_law 159 = .ok (.iload_n 3, 1) := by decide +kernel
theorem dL_law_160 : decode cL_law 160 = .ok (.iconst 1, 1) := by decide +kernel
theorem dL_law_161 : decode cL_law 161 = .ok (.iadd, 1) := by decide +kernel
theorem dL_law_162 : decode cL_law 162 = .ok (.iaload, 1) := by decide +kernel
theorem dL_law_163 : decode cL_law 163 = .ok (.invokevirtual 17, 3) := by decide +kernel
theorem dL_law_166 : decode cL_law 166 = .ok (.if_icmp .eq 727, 3) := by decide +kernel
theorem dL_law_169 : decode cL_law 169 = .ok (.iconst 0, 1) := by decide +kernel
theorem dL_law_170 : decode cL_law 170 = .ok (.ireturn, 1) := by decide +kernel
theorem dL_law_171 : decode cL_law 171 = .ok (.aload_n 1, 1) := by decide +kernel
theorem dL_law_172 : decode cL_law 172 = .ok (.invokevirtual 18, 3) := by decide +kernel
theorem dL_law_175 : decode cL_law 175 = .ok (.aload_n 2, 1) := by decide +kernel
theorem dL_law_176 : decode cL_law 176 = .ok (.invokevirtual 22, 3) := by decide +kernel
theorem dL_law_179 : decode cL_law 179 = .ok (.if_icmp .eq 714, 3) := by decide +kernel
theorem dL_law_182 : decode cL_law 182 = .ok (.iconst 0, 1) := by decide +kernel
theorem dL_law_183 : decode cL_law 183 = .ok (.ireturn, 1) := by decide +kernel
theorem dL_law_184 : decode cL_law 184 = .ok (.aload_n 1, 1) := by decide +kernel
theorem dL_law_185 : decode cL_law 185 = .ok (.invokevirtual 23, 3) := by decide +kernel
theorem dL_law_188 : decode cL_law 188 = .ok (.aload_n 2, 1) := by decide +kernel
theorem dL_law_189 : decode cL_law 189 = .ok (.invokevirtual 26, 3) := by decide +kernel
theorem dL_law_192 : decode cL_law 192 = .ok (.if_icmp .eq 701, 3) := by decide +kernel
theorem dL_law_195 : decode cL_law 195 = .ok (.iconst 0, 1) := by decide +kernel
theorem dL_law_196 : decode cL_law 196 = .ok (.ireturn, 1) := by decide +kernel
theorem dL_law_197 : decode cL_law 197 = .ok (.aload_n 1, 1) := by decide +kernel
theorem dL_law_198 : decode cL_law 198 = .ok (.invokevirtual 27, 3) := by decide +kernel
theorem dL_law_201 : decode cL_law 201 = .ok (.aload_n 2, 1) := by decide +kernel
theorem dL_law_202 : decode cL_law 202 = .ok (.invokevirtual 30, 3) := by decide +kernel
theorem dL_law_205 : decode cL_law 205 = .ok (.if_icmp .eq 688, 3) := by decide +kernel
theorem dL_law_208 : decode cL_law 208 = .ok (.iconst 0, 1) := by decide +kernel
theorem dL_law_209 : decode cL_law 209 = .ok (.ireturn, 1) := by decide +kernel
theorem dL_law_210 : decode cL_law 210 = .ok (.aload_n 1, 1) := by decide +kernel
theorem dL_law_211 : decode cL_law 211 = .ok (.aload_n 0, 1) := by decide +kernel
theorem dL_law_212 : decode cL_law 212 = .ok (.iload_n 3, 1) := by decide +kernel
theorem dL_law_213 : decode cL_law 213 = .ok (.iconst 1, 1) := by decide +kernel
theorem dL_law_214 : decode cL_law 214 = .ok (.iadd, 1) := by decide +kernel
theorem dL_law_215 : decode cL_law 215 = .ok (.iaload, 1) := by decide +kernel
theorem dL_law_216 : decode cL_law 216 = .ok (.aload_n 0, 1) := by decide +kernel
theorem dL_law_217 : decode cL_law 217 = .ok (.iload_n 3, 1) := by decide +kernel
theorem dL_law_218 : decode cL_law 218 = .ok (.iconst 2, 1) := by decide +kernel
theorem dL_law_219 : decode cL_law 219 = .ok (.iadd, 1) := by decide +kernel
theorem dL_law_220 : decode cL_law 220 = .ok (.iaload, 1) := by decide +kernel
theorem dL_law_221 : decode cL_law 221 = .ok (.aload_n 0, 1) := by decide +kernel
theorem dL_law_222 : decode cL_law 222 = .ok (.iload_n 3, 1) := by decide +kernel
theorem dL_law_223 : decode cL_law 223 = .ok (.iconst 3, 1) := by decide +kernel
theorem dL_law_224 : decode cL_law 224 = .ok (.iadd, 1) := by decide +kernel
theorem dL_law_225 : decode cL_law 225 = .ok (.iaload, 1) := by decide +kernel
theorem dL_law_226 : decode cL_law 226 = .ok (.invokevirtual 31, 3) := by decide +kernel
theorem dL_law_229 : decode cL_law 229 = .ok (.aload_n 2, 1) := by decide +kernel
theorem dL_law_230 : decode cL_law 230 = .ok (.aload_n 0, 1) := by decide +kernel
theorem dL_law_231 : decode cL_law 231 = .ok (.iload_n 3, 1) := by decide +kernel
theorem dL_law_232 : decode cL_law 232 = .ok (.iconst 1, 1) := by decide +kernel
theorem dL_law_233 : decode cL_law 233 = .ok (.iadd, 1) := by decide +kernel
theorem dL_law_234 : decode cL_law 234 = .ok (.iaload, 1) := by decide +kernel
theorem dL_law_235 : decode cL_law 235 = .ok (.aload_n 0, 1) := by decide +kernel
theorem dL_law_236 : decode cL_law 236 = .ok (.iload_n 3, 1) := by decide +kernel
theorem dL_law_237 : decode cL_law 237 = .ok (.iconst 2, 1) := by decide +kernel
theorem dL_law_238 : decode cL_law 238 = .ok (.iadd, 1) := by decide +kernel
theorem dL_law_239 : decode cL_law 239 = .ok (.iaload, 1) := by decide +kernel
theorem dL_law_240 : decode cL_law 240 = .ok (.aload_n 0, 1) := by decide +kernel
theorem dL_law_241 : decode cL_law 241 = .ok (.iload_n 3, 1) := by decide +kernel
theorem dL_law_242 : decode cL_law 242 = .ok (.iconst 3, 1) := by decide +kernel
theorem dL_law_243 : decode cL_law 243 = .ok (.iadd, 1) := by decide +kernel
theorem dL_law_244 : decode cL_law 244 = .ok (.iaload, 1) := by decide +kernel
theorem dL_law_245 : decode cL_law 245 = .ok (.invokevirtual 35, 3) := by decide +kernel
theorem dL_law_248 : decode cL_law 248 = .ok (.if_icmp .eq 645, 3) := by decide +kernel
theorem dL_law_251 : decode cL_law 251 = .ok (.iconst 0, 1) := by decide +kernel
theorem dL_law_252 : decode cL_law 252 = .ok (.ireturn, 1) := by decide +kernel
theorem dL_law_253 : decode cL_law 253 = .ok (.aload_n 1, 1) := by decide +kernel
theorem dL_law_254 : decode cL_law 254 = .ok (.aload_n 0, 1) := by decide +kernel
theorem dL_law_255 : decode cL_law 255 = .ok (.iload_n 3, 1) := by decide +kernel
theorem dL_law_256 : decode cL_law 256 = .ok (.iconst 1, 1) := by decide +kernel
theorem dL_law_257 : decode cL_law 257 = .ok (.iadd, 1) := by decide +kernel
theorem dL_law_258 : decode cL_law 258 = .ok (.iaload, 1) := by decide +kernel
theorem dL_law_259 : decode cL_law 259 = .ok (.aload_n 0, 1) := by decide +kernel
theorem dL_law_260 : decode cL_law 260 = .ok (.iload_n 3, 1) := by decide +kernel
theorem dL_law_261 : decode cL_law 261 = .ok (.iconst 2, 1) := by decide +kernel
theorem dL_law_262 : decode cL_law 262 = .ok (.iadd, 1) := by decide +kernel
theorem dL_law_263 : decode cL_law 263 = .ok (.iaload, 1) := by decide +kernel
theorem dL_law_264 : decode cL_law 264 = .ok (.invokevirtual 36, 3) := by decide +kernel
theorem dL_law_267 : decode cL_law 267 = .ok (.aload_n 2, 1) := by decide +kernel
theorem dL_law_268 : decode cL_law 268 = .ok (.aload_n 0, 1) := by decide +kernel
theorem dL_law_269 : decode cL_law 269 = .ok (.iload_n 3, 1) := by decide +kernel
theorem dL_law_270 : decode cL_law 270 = .ok (.iconst 1, 1) := by decide +kernel
theorem dL_law_271 : decode cL_law 271 = .ok (.iadd, 1) := by decide +kernel
theorem dL_law_272 : decode cL_law 272 = .ok (.iaload, 1) := by decide +kernel
theorem dL_law_273 : decode cL_law 273 = .ok (.aload_n 0, 1) := by decide +kernel
theorem dL_law_274 : decode cL_law 274 = .ok (.iload_n 3, 1) := by decide +kernel
theorem dL_law_275 : decode cL_law 275 = .ok (.iconst 2, 1) := by decide +kernel
theorem dL_law_276 : decode cL_law 276 = .ok (.iadd, 1) := by decide +kernel
theorem dL_law_277 : decode cL_law 277 = .ok (.iaload, 1) := by decide +kernel
theorem dL_law_278 : decode cL_law 278 = .ok (.invokevirtual 40, 3) := by decide +kernel
theorem dL_law_281 : decode cL_law 281 = .ok (.if_icmp .eq 612, 3) := by decide +kernel
theorem dL_law_284 : decode cL_law 284 = .ok (.iconst 0, 1) := by decide +kernel
theorem dL_law_285 : decode cL_law 285 = .ok (.ireturn, 1) := by decide +kernel
theorem dL_law_286 : decode cL_law 286 = .ok (.aload_n 1, 1) := by decide +kernel
theorem dL_law_287 : decode cL_law 287 = .ok (.aload_n 0, 1) := by decide +kernel
theorem dL_law_288 : decode cL_law 288 = .ok (.iload_n 3, 1) := by decide +kernel
theorem dL_law_289 : decode cL_law 289 = .ok (.iconst 1, 1) := by decide +kernel
theorem dL_law_290 : decode cL_law 290 = .ok (.iadd, 1) := by decide +kernel
theorem dL_law_291 : decode cL_law 291 = .ok (.iaload, 1) := by decide +kernel
theorem dL_law_292 : decode cL_law 292 = .ok (.invokevirtual 41, 3) := by decide +kernel
theorem dL_law_295 : decode cL_law 295 = .ok (.aload_n 2, 1) := by decide +kernel
theorem dL_law_296 : decode cL_law 296 = .ok (.aload_n 0, 1) := by decide +kernel
theorem dL_law_297 : decode cL_law 297 = .ok (.iload_n 3, 1) := by decide +kernel
theorem dL_law_298 : decode cL_law 298 = .ok (.iconst 1, 1) := by decide +kernel
theorem dL_law_299 : decode cL_law 299 = .ok (.iadd, 1) := by decide +kernel
theorem dL_law_300 : decode cL_law 300 = .ok (.iaload, 1) := by decide +kernel
theorem dL_law_301 : decode cL_law 301 = .ok (.invokevirtual 44, 3) := by decide +kernel
theorem dL_law_304 : decode cL_law 304 = .ok (.if_icmp .eq 589, 3) := by decide +kernel
theorem dL_law_307 : decode cL_law 307 = .ok (.iconst 0, 1) := by decide +kernel
theorem dL_law_308 : decode cL_law 308 = .ok (.ireturn, 1) := by decide +kernel
theorem dL_law_309 : decode cL_law 309 = .ok (.aload_n 1, 1) := by decide +kernel
theorem dL_law_310 : decode cL_law 310 = .ok (.aload_n 0, 1) := by decide +kernel
theorem dL_law_311 : decode cL_law 311 = .ok (.iload_n 3, 1) := by decide +kernel
theorem dL_law_312 : decode cL_law 312 = .ok (.iconst 1, 1) := by decide +kernel
theorem dL_law_313 : decode cL_law 313 = .ok (.iadd, 1) := by decide +kernel
theorem dL_law_314 : decode cL_law 314 = .ok (.iaload, 1) := by decide +kernel
theorem dL_law_315 : decode cL_law 315 = .ok (.aload_n 0, 1) := by decide +kernel
theorem dL_law_316 : decode cL_law 316 = .ok (.iload_n 3, 1) := by decide +kernel
theorem dL_law_317 : decode cL_law 317 = .ok (.iconst 2, 1) := by decide +kernel
theorem dL_law_318 : decode cL_law 318 = .ok (.iadd, 1) := by decide +kernel
theorem dL_law_319 : decode cL_law 319 = .ok (.iaload, 1) := by decide +kernel
theorem dL_law_320 : decode cL_law 320 = .ok (.invokevirtual 45, 3) := by decide +kernel
theorem dL_law_323 : decode cL_law 323 = .ok (.aload_n 2, 1) := by decide +kernel
theorem dL_law_324 : decode cL_law 324 = .ok (.aload_n 0, 1) := by decide +kernel
theorem dL_law_325 : decode cL_law 325 = .ok (.iload_n 3, 1) := by decide +kernel
theorem dL_law_326 : decode cL_law 326 = .ok (.iconst 1, 1) := by decide +kernel
theorem dL_law_327 : decode cL_law 327 = .ok (.iadd, 1) := by decide +kernel
theorem dL_law_328 : decode cL_law 328 = .ok (.iaload, 1) := by decide +kernel
theorem dL_law_329 : decode cL_law 329 = .ok (.aload_n 0, 1) := by decide +kernel
theorem dL_law_330 : decode cL_law 330 = .ok (.iload_n 3, 1) := by decide +kernel
theorem dL_law_331 : decode cL_law 331 = .ok (.iconst 2, 1) := by decide +kernel
theorem dL_law_332 : decode cL_law 332 = .ok (.iadd, 1) := by decide +kernel
theorem dL_law_333 : decode cL_law 333 = .ok (.iaload, 1) := by decide +kernel
theorem dL_law_334 : decode cL_law 334 = .ok (.invokevirtual 48, 3) := by decide +kernel
theorem dL_law_337 : decode cL_law 337 = .ok (.if_icmp .eq 556, 3) := by decide +kernel
theorem dL_law_340 : decode cL_law 340 = .ok (.iconst 0, 1) := by decide +kernel
theorem dL_law_341 : decode cL_law 341 = .ok (.ireturn, 1) := by decide +kernel
theorem dL_law_342 : decode cL_law 342 = .ok (.aload_n 1, 1) := by decide +kernel
theorem dL_law_343 : decode cL_law 343 = .ok (.invokevirtual 49, 3) := by decide +kernel
theorem dL_law_346 : decode cL_law 346 = .ok (.aload_n 2, 1) := by decide +kernel
theorem dL_law_347 : decode cL_law 347 = .ok (.invokevirtual 52, 3) := by decide +kernel
theorem dL_law_350 : decode cL_law 350 = .ok (.if_icmp .eq 543, 3) := by decide +kernel
theorem dL_law_353 : decode cL_law 353 = .ok (.iconst 0, 1) := by decide +kernel
theorem dL_law_354 : decode cL_law 354 = .ok (.ireturn, 1) := by decide +kernel
theorem dL_law_355 : decode cL_law 355 = .ok (.aload_n 1, 1) := by decide +kernel
theorem dL_law_356 : decode cL_law 356 = .ok (.aload_n 0, 1) := by decide +kernel
theorem dL_law_357 : decode cL_law 357 = .ok (.iload_n 3, 1) := by decide +kernel
theorem dL_law_358 : decode cL_law 358 = .ok (.iconst 1, 1) := by decide +kernel
theorem dL_law_359 : decode cL_law 359 = .ok (.iadd, 1) := by decide +kernel
theorem dL_law_360 : decode cL_law 360 = .ok (.iaload, 1) := by decide +kernel
theorem dL_law_361 : decode cL_law 361 = .ok (.aload_n 0, 1) := by decide +kernel
theorem dL_law_362 : decode cL_law 362 = .ok (.iload_n 3, 1) := by decide +kernel
theorem dL_law_363 : decode cL_law 363 = .ok (.iconst 2, 1) := by decide +kernel
theorem dL_law_364 : decode cL_law 364 = .ok (.iadd, 1) := by decide +kernel
theorem dL_law_365 : decode cL_law 365 = .ok (.iaload, 1) := by decide +kernel
theorem dL_law_366 : decode cL_law 366 = .ok (.invokevirtual 53, 3) := by decide +kernel
theorem dL_law_369 : decode cL_law 369 = .ok (.aload_n 2, 1) := by decide +kernel
theorem dL_law_370 : decode cL_law 370 = .ok (.aload_n 0, 1) := by decide +kernel
theorem dL_law_371 : decode cL_law 371 = .ok (.iload_n 3, 1) := by decide +kernel
theorem dL_law_372 : decode cL_law 372 = .ok (.iconst 1, 1) := by decide +kernel
theorem dL_law_373 : decode cL_law 373 = .ok (.iadd, 1) := by decide +kernel
theorem dL_law_374 : decode cL_law 374 = .ok (.iaload, 1) := by decide +kernel
theorem dL_law_375 : decode cL_law 375 = .ok (.aload_n 0, 1) := by decide +kernel
theorem dL_law_376 : decode cL_law 376 = .ok (.iload_n 3, 1) := by decide +kernel
theorem dL_law_377 : decode cL_law 377 = .ok (.iconst 2, 1) := by decide +kernel
theorem dL_law_378 : decode cL_law 378 = .ok (.iadd, 1) := by decide +kernel
theorem dL_law_379 : decode cL_law 379 = .ok (.iaload, 1) := by decide +kernel
theorem dL_law_380 : decode cL_law 380 = .ok (.invokevirtual 56, 3) := by decide +kernel
theorem dL_law_383 : decode cL_law 383 = .ok (.if_icmp .eq 510, 3) := by decide +kernel
theorem dL_law_386 : decode cL_law 386 = .ok (.iconst 0, 1) := by decide +kernel
theorem dL_law_387 : decode cL_law 387 = .ok (.ireturn, 1) := by decide +kernel
theorem dL_law_388 : decode cL_law 388 = .ok (.aload_n 1, 1) := by decide +kernel
theorem dL_law_389 : decode cL_law 389 = .ok (.aload_n 0, 1) := by decide +kernel
theorem dL_law_390 : decode cL_law 390 = .ok (.iload_n 3, 1) := by decide +kernel
theorem dL_law_391 : decode cL_law 391 = .ok (.iconst 1, 1) := by decide +kernel
theorem dL_law_392 : decode cL_law 392 = .ok (.iadd, 1) := by decide +kernel
theorem dL_law_393 : decode cL_law 393 = .ok (.iaload, 1) := by decide +kernel
theorem dL_law_394 : decode cL_law 394 = .ok (.aload_n 0, 1) := by decide +kernel
theorem dL_law_395 : decode cL_law 395 = .ok (.iload_n 3, 1) := by decide +kernel
theorem dL_law_396 : decode cL_law 396 = .ok (.iconst 2, 1) := by decide +kernel
theorem dL_law_397 : decode cL_law 397 = .ok (.iadd, 1) := by decide +kernel
theorem dL_law_398 : decode cL_law 398 = .ok (.iaload, 1) := by decide +kernel
theorem dL_law_399 : decode cL_law 399 = .ok (.invokevirtual 57, 3) := by decide +kernel
theorem dL_law_402 : decode cL_law 402 = .ok (.aload_n 2, 1) := by decide +kernel
theorem dL_law_403 : decode cL_law 403 = .ok (.aload_n 0, 1) := by decide +kernel
theorem dL_law_404 : decode cL_law 404 = .ok (.iload_n 3, 1) := by decide +kernel
theorem dL_law_405 : decode cL_law 405 = .ok (.iconst 1, 1) := by decide +kernel
theorem dL_law_406 : decode cL_law 406 = .ok (.iadd, 1) := by decide +kernel
theorem dL_law_407 : decode cL_law 407 = .ok (.iaload, 1) := by decide +kernel
theorem dL_law_408 : decode cL_law 408 = .ok (.aload_n 0, 1) := by decide +kernel
theorem dL_law_409 : decode cL_law 409 = .ok (.iload_n 3, 1) := by decide +kernel
theorem dL_law_410 : decode cL_law 410 = .ok (.iconst 2, 1) := by decide +kernel
theorem dL_law_411 : decode cL_law 411 = .ok (.iadd, 1) := by decide +kernel
theorem dL_law_412 : decode cL_law 412 = .ok (.iaload, 1) := by decide +kernel
theorem dL_law_413 : decode cL_law 413 = .ok (.invokevirtual 60, 3) := by decide +kernel
theorem dL_law_416 : decode cL_law 416 = .ok (.if_icmp .eq 477, 3) := by decide +kernel
theorem dL_law_419 : decode cL_law 419 = .ok (.iconst 0, 1) := by decide +kernel
theorem dL_law_420 : decode cL_law 420 = .ok (.ireturn, 1) := by decide +kernel
theorem dL_law_421 : decode cL_law 421 = .ok (.aload_n 1, 1) := by decide +kernel
theorem dL_law_422 : decode cL_law 422 = .ok (.aload_n 0, 1) := by decide +kernel
theorem dL_law_423 : decode cL_law 423 = .ok (.iload_n 3, 1) := by decide +kernel
theorem dL_law_424 : decode cL_law 424 = .ok (.iconst 1, 1) := by decide +kernel
theorem dL_law_425 : decode cL_law 425 = .ok (.iadd, 1) := by decide +kernel
theorem dL_law_426 : decode cL_law 426 = .ok (.iaload, 1) := by decide +kernel
theorem dL_law_427 : decode cL_law 427 = .ok (.aload_n 0, 1) := by decide +kernel
theorem dL_law_428 : decode cL_law 428 = .ok (.iload_n 3, 1) := by decide +kernel
theorem dL_law_429 : decode cL_law 429 = .ok (.iconst 2, 1) := by decide +kernel
theorem dL_law_430 : decode cL_law 430 = .ok (.iadd, 1) := by decide +kernel
theorem dL_law_431 : decode cL_law 431 = .ok (.iaload, 1) := by decide +kernel
theorem dL_law_432 : decode cL_law 432 = .ok (.invokevirtual 61, 3) := by decide +kernel
theorem dL_law_435 : decode cL_law 435 = .ok (.aload_n 2, 1) := by decide +kernel
theorem dL_law_436 : decode cL_law 436 = .ok (.aload_n 0, 1) := by decide +kernel
theorem dL_law_437 : decode cL_law 437 = .ok (.iload_n 3, 1) := by decide +kernel
theorem dL_law_438 : decode cL_law 438 = .ok (.iconst 1, 1) := by decide +kernel
theorem dL_law_439 : decode cL_law 439 = .ok (.iadd, 1) := by decide +kernel
theorem dL_law_440 : decode cL_law 440 = .ok (.iaload, 1) := by decide +kernel
theorem dL_law_441 : decode cL_law 441 = .ok (.aload_n 0, 1) := by decide +kernel
theorem dL_law_442 : decode cL_law 442 = .ok (.iload_n 3, 1) := by decide +kernel
theorem dL_law_443 : decode cL_law 443 = .ok (.iconst 2, 1) := by decide +kernel
theorem dL_law_444 : decode cL_law 444 = .ok (.iadd, 1) := by decide +kernel
theorem dL_law_445 : decode cL_law 445 = .ok (.iaload, 1) := by decide +kernel
theorem dL_law_446 : decode cL_law 446 = .ok (.invokevirtual 64, 3) := by decide +kernel
theorem dL_law_449 : decode cL_law 449 = .ok (.if_icmp .eq 444, 3) := by decide +kernel
theorem dL_law_452 : decode cL_law 452 = .ok (.iconst 0, 1) := by decide +kernel
theorem dL_law_453 : decode cL_law 453 = .ok (.ireturn, 1) := by decide +kernel
theorem dL_law_454 : decode cL_law 454 = .ok (.aload_n 1, 1) := by decide +kernel
theorem dL_law_455 : decode cL_law 455 = .ok (.aload_n 0, 1) := by decide +kernel
theorem dL_law_456 : decode cL_law 456 = .ok (.iload_n 3, 1) := by decide +kernel
theorem dL_law_457 : decode cL_law 457 = .ok (.iconst 1, 1) := by decide +kernel
theorem dL_law_458 : decode cL_law 458 = .ok (.iadd, 1) := by decide +kernel
theorem dL_law_459 : decode cL_law 459 = .ok (.iaload, 1) := by decide +kernel
theorem dL_law_460 : decode cL_law 460 = .ok (.invokevirtual 65, 3) := by decide +kernel
theorem dL_law_463 : decode cL_law 463 = .ok (.aload_n 2, 1) := by decide +kernel
theorem dL_law_464 : decode cL_law 464 = .ok (.aload_n 0, 1) := by decide +kernel
theorem dL_law_465 : decode cL_law 465 = .ok (.iload_n 3, 1) := by decide +kernel
theorem dL_law_466 : decode cL_law 466 = .ok (.iconst 1, 1) := by decide +kernel
theorem dL_law_467 : decode cL_law 467 = .ok (.iadd, 1) := by decide +kernel
theorem dL_law_468 : decode cL_law 468 = .ok (.iaload, 1) := by decide +kernel
theorem dL_law_469 : decode cL_law 469 = .ok (.invokevirtual 68, 3) := by decide +kernel
theorem dL_law_472 : decode cL_law 472 = .ok (.if_icmp .eq 421, 3) := by decide +kernel
theorem dL_law_475 : decode cL_law 475 = .ok (.iconst 0, 1) := by decide +kernel
theorem dL_law_476 : decode cL_law 476 = .ok (.ireturn, 1) := by decide +kernel
theorem dL_law_477 : decode cL_law 477 = .ok (.aload_n 1, 1) := by decide +kernel
theorem dL_law_478 : decode cL_law 478 = .ok (.aload_n 0, 1) := by decide +kernel
theorem dL_law_479 : decode cL_law 479 = .ok (.iload_n 3, 1) := by decide +kernel
theorem dL_law_480 : decode cL_law 480 = .ok (.iconst 1, 1) := by decide +kernel
theorem dL_law_481 : decode cL_law 481 = .ok (.iadd, 1) := by decide +kernel
theorem dL_law_482 : decode cL_law 482 = .ok (.iaload, 1) := by decide +kernel
theorem dL_law_483 : decode cL_law 483 = .ok (.aload_n 0, 1) := by decide +kernel
theorem dL_law_484 : decode cL_law 484 = .ok (.iload_n 3, 1) := by decide +kernel
theorem dL_law_485 : decode cL_law 485 = .ok (.iconst 2, 1) := by decide +kernel
theorem dL_law_486 : decode cL_law 486 = .ok (.iadd, 1) := by decide +kernel
theorem dL_law_487 : decode cL_law 487 = .ok (.iaload, 1) := by decide +kernel
theorem dL_law_488 : decode cL_law 488 = .ok (.aload_n 0, 1) := by decide +kernel
theorem dL_law_489 : decode cL_law 489 = .ok (.iload_n 3, 1) := by decide +kernel
theorem dL_law_490 : decode cL_law 490 = .ok (.iconst 3, 1) := by decide +kernel
theorem dL_law_491 : decode cL_law 491 = .ok (.iadd, 1) := by decide +kernel
theorem dL_law_492 : decode cL_law 492 = .ok (.iaload, 1) := by decide +kernel
theorem dL_law_493 : decode cL_law 493 = .ok (.invokevirtual 69, 3) := by decide +kernel
theorem dL_law_496 : decode cL_law 496 = .ok (.aload_n 2, 1) := by decide +kernel
theorem dL_law_497 : decode cL_law 497 = .ok (.aload_n 0, 1) := by decide +kernel
theorem dL_law_498 : decode cL_law 498 = .ok (.iload_n 3, 1) := by decide +kernel
theorem dL_law_499 : decode cL_law 499 = .ok (.iconst 1, 1) := by decide +kernel
theorem dL_law_500 : decode cL_law 500 = .ok (.iadd, 1) := by decide +kernel
theorem dL_law_501 : decode cL_law 501 = .ok (.iaload, 1) := by decide +kernel
theorem dL_law_502 : decode cL_law 502 = .ok (.aload_n 0, 1) := by decide +kernel
theorem dL_law_503 : decode cL_law 503 = .ok (.iload_n 3, 1) := by decide +kernel
theorem dL_law_504 : decode cL_law 504 = .ok (.iconst 2, 1) := by decide +kernel
theorem dL_law_505 : decode cL_law 505 = .ok (.iadd, 1) := by decide +kernel
theorem dL_law_506 : decode cL_law 506 = .ok (.iaload, 1) := by decide +kernel
theorem dL_law_507 : decode cL_law 507 = .ok (.aload_n 0, 1) := by decide +kernel
theorem dL_law_508 : decode cL_law 508 = .ok (.iload_n 3, 1) := by decide +kernel
theorem dL_law_509 : decode cL_law 509 = .ok (.iconst 3, 1) := by decide +kernel
theorem dL_law_510 : decode cL_law 510 = .ok (.iadd, 1) := by decide +kernel
theorem dL_law_511 : decode cL_law 511 = .ok (.iaload, 1) := by decide +kernel
theorem dL_law_512 : decode cL_law 512 = .ok (.invokevirtual 72, 3) := by decide +kernel
theorem dL_law_515 : decode cL_law 515 = .ok (.if_icmp .eq 378, 3) := by decide +kernel
theorem dL_law_518 : decode cL_law 518 = .ok (.iconst 0, 1) := by decide +kernel
theorem dL_law_519 : decode cL_law 519 = .ok (.ireturn, 1) := by decide +kernel
theorem dL_law_520 : decode cL_law 520 = .ok (.aload_n 1, 1) := by decide +kernel
theorem dL_law_521 : decode cL_law 521 = .ok (.aload_n 0, 1) := by decide +kernel
theorem dL_law_522 : decode cL_law 522 = .ok (.iload_n 3, 1) := by decide +kernel
theorem dL_law_523 : decode cL_law 523 = .ok (.iconst 1, 1) := by decide +kernel
theorem dL_law_524 : decode cL_law 524 = .ok (.iadd, 1) := by decide +kernel
theorem dL_law_525 : decode cL_law 525 = .ok (.iaload, 1) := by decide +kernel
theorem dL_law_526 : decode cL_law 526 = .ok (.aload_n 0, 1) := by decide +kernel
theorem dL_law_527 : decode cL_law 527 = .ok (.iload_n 3, 1) := by decide +kernel
theorem dL_law_528 : decode cL_law 528 = .ok (.iconst 2, 1) := by decide +kernel
theorem dL_law_529 : decode cL_law 529 = .ok (.iadd, 1) := by decide +kernel
theorem dL_law_530 : decode cL_law 530 = .ok (.iaload, 1) := by decide +kernel
theorem dL_law_531 : decode cL_law 531 = .ok (.invokevirtual 73, 3) := by decide +kernel
theorem dL_law_534 : decode cL_law 534 = .ok (.aload_n 2, 1) := by decide +kernel
theorem dL_law_535 : decode cL_law 535 = .ok (.aload_n 0, 1) := by decide +kernel
theorem dL_law_536 : decode cL_law 536 = .ok (.iload_n 3, 1) := by decide +kernel
theorem dL_law_537 : decode cL_law 537 = .ok (.iconst 1, 1) := by decide +kernel
theorem dL_law_538 : decode cL_law 538 = .ok (.iadd, 1) := by decide +kernel
theorem dL_law_539 : decode cL_law 539 = .ok (.iaload, 1) := by decide +kernel
theorem dL_law_540 : decode cL_law 540 = .ok (.aload_n 0, 1) := by decide +kernel
theorem dL_law_541 : decode cL_law 541 = .ok (.iload_n 3, 1) := by decide +kernel
theorem dL_law_542 : decode cL_law 542 = .ok (.iconst 2, 1) := by decide +kernel
theorem dL_law_543 : decode cL_law 543 = .ok (.iadd, 1) := by decide +kernel
theorem dL_law_544 : decode cL_law 544 = .ok (.iaload, 1) := by decide +kernel
theorem dL_law_545 : decode cL_law 545 = .ok (.invokevirtual 76, 3) := by decide +kernel
theorem dL_law_548 : decode cL_law 548 = .ok (.if_icmp .eq 345, 3) := by decide +kernel
theorem dL_law_551 : decode cL_law 551 = .ok (.iconst 0, 1) := by decide +kernel
theorem dL_law_552 : decode cL_law 552 = .ok (.ireturn, 1) := by decide +kernel
theorem dL_law_553 : decode cL_law 553 = .ok (.aload_n 1, 1) := by decide +kernel
theorem dL_law_554 : decode cL_law 554 = .ok (.aload_n 0, 1) := by decide +kernel
theorem dL_law_555 : decode cL_law 555 = .ok (.iload_n 3, 1) := by decide +kernel
theorem dL_law_556 : decode cL_law 556 = .ok (.iconst 1, 1) := by decide +kernel
theorem dL_law_557 : decode cL_law 557 = .ok (.iadd, 1) := by decide +kernel
theorem dL_law_558 : decode cL_law 558 = .ok (.iaload, 1) := by decide +kernel
theorem dL_law_559 : decode cL_law 559 = .ok (.aload_n 0, 1) := by decide +kernel
theorem dL_law_560 : decode cL_law 560 = .ok (.iload_n 3, 1) := by decide +kernel
theorem dL_law_561 : decode cL_law 561 = .ok (.iconst 2, 1) := by decide +kernel
theorem dL_law_562 : decode cL_law 562 = .ok (.iadd, 1) := by decide +kernel
theorem dL_law_563 : decode cL_law 563 = .ok (.iaload, 1) := by decide +kernel
theorem dL_law_564 : decode cL_law 564 = .ok (.aload_n 0, 1) := by decide +kernel
theorem dL_law_565 : decode cL_law 565 = .ok (.iload_n 3, 1) := by decide +kernel
theorem dL_law_566 : decode cL_law 566 = .ok (.iconst 3, 1) := by decide +kernel
theorem dL_law_567 : decode cL_law 567 = .ok (.iadd, 1) := by decide +kernel
theorem dL_law_568 : decode cL_law 568 = .ok (.iaload, 1) := by decide +kernel
theorem dL_law_569 : decode cL_law 569 = .ok (.invokevirtual 77, 3) := by decide +kernel
theorem dL_law_572 : decode cL_law 572 = .ok (.aload_n 2, 1) := by decide +kernel
theorem dL_law_573 : decode cL_law 573 = .ok (.aload_n 0, 1) := by decide +kernel
theorem dL_law_574 : decode cL_law 574 = .ok (.iload_n 3, 1) := by decide +kernel
theorem dL_law_575 : decode cL_law 575 = .ok (.iconst 1, 1) := by decide +kernel
theorem dL_law_576 : decode cL_law 576 = .ok (.iadd, 1) := by decide +kernel
theorem dL_law_577 : decode cL_law 577 = .ok (.iaload, 1) := by decide +kernel
theorem dL_law_578 : decode cL_law 578 = .ok (.aload_n 0, 1) := by decide +kernel
theorem dL_law_579 : decode cL_law 579 = .ok (.iload_n 3, 1) := by decide +kernel
theorem dL_law_580 : decode cL_law 580 = .ok (.iconst 2, 1) := by decide +kernel
theorem dL_law_581 : decode cL_law 581 = .ok (.iadd, 1) := by decide +kernel
theorem dL_law_582 : decode cL_law 582 = .ok (.iaload, 1) := by decide +kernel
theorem dL_law_583 : decode cL_law 583 = .ok (.aload_n 0, 1) := by decide +kernel
theorem dL_law_584 : decode cL_law 584 = .ok (.iload_n 3, 1) := by decide +kernel
theorem dL_law_585 : decode cL_law 585 = .ok (.iconst 3, 1) := by decide +kernel
theorem dL_law_586 : decode cL_law 586 = .ok (.iadd, 1) := by decide +kernel
theorem dL_law_587 : decode cL_law 587 = .ok (.iaload, 1) := by decide +kernel
theorem dL_law_588 : decode cL_law 588 = .ok (.invokevirtual 80, 3) := by decide +kernel
theorem dL_law_591 : decode cL_law 591 = .ok (.if_icmp .eq 302, 3) := by decide +kernel
theorem dL_law_594 : decode cL_law 594 = .ok (.iconst 0, 1) := by decide +kernel
theorem dL_law_595 : decode cL_law 595 = .ok (.ireturn, 1) := by decide +kernel
theorem dL_law_596 : decode cL_law 596 = .ok (.aload_n 1, 1) := by decide +kernel
theorem dL_law_597 : decode cL_law 597 = .ok (.invokevirtual 81, 3) := by decide +kernel
theorem dL_law_600 : decode cL_law 600 = .ok (.aload_n 2, 1) := by decide +kernel
theorem dL_law_601 : decode cL_law 601 = .ok (.invokevirtual 84, 3) := by decide +kernel
theorem dL_law_604 : decode cL_law 604 = .ok (.if_icmp .eq 289, 3) := by decide +kernel
theorem dL_law_607 : decode cL_law 607 = .ok (.iconst 0, 1) := by decide +kernel
theorem dL_law_608 : decode cL_law 608 = .ok (.ireturn, 1) := by decide +kernel
theorem dL_law_609 : decode cL_law 609 = .ok (.aload_n 1, 1) := by decide +kernel
theorem dL_law_610 : decode cL_law 610 = .ok (.aload_n 0, 1) := by decide +kernel
theorem dL_law_611 : decode cL_law 611 = .ok (.iload_n 3, 1) := by decide +kernel
theorem dL_law_612 : decode cL_law 612 = .ok (.iconst 1, 1) := by decide +kernel
theorem dL_law_613 : decode cL_law 613 = .ok (.iadd, 1) := by decide +kernel
theorem dL_law_614 : decode cL_law 614 = .ok (.iaload, 1) := by decide +kernel
theorem dL_law_615 : decode cL_law 615 = .ok (.aload_n 0, 1) := by decide +kernel
theorem dL_law_616 : decode cL_law 616 = .ok (.iload_n 3, 1) := by decide +kernel
theorem dL_law_617 : decode cL_law 617 = .ok (.iconst 2, 1) := by decide +kernel
theorem dL_law_618 : decode cL_law 618 = .ok (.iadd, 1) := by decide +kernel
theorem dL_law_619 : decode cL_law 619 = .ok (.iaload, 1) := by decide +kernel
theorem dL_law_620 : decode cL_law 620 = .ok (.aload_n 0, 1) := by decide +kernel
theorem dL_law_621 : decode cL_law 621 = .ok (.iload_n 3, 1) := by decide +kernel
theorem dL_law_622 : decode cL_law 622 = .ok (.iconst 3, 1) := by decide +kernel
theorem dL_law_623 : decode cL_law 623 = .ok (.iadd, 1) := by decide +kernel
theorem dL_law_624 : decode cL_law 624 = .ok (.iaload, 1) := by decide +kernel
theorem dL_law_625 : decode cL_law 625 = .ok (.invokevirtual 85, 3) := by decide +kernel
theorem dL_law_628 : decode cL_law 628 = .ok (.aload_n 2, 1) := by decide +kernel
theorem dL_law_629 : decode cL_law 629 = .ok (.aload_n 0, 1) := by decide +kernel
theorem dL_law_630 : decode cL_law 630 = .ok (.iload_n 3, 1) := by decide +kernel
theorem dL_law_631 : decode cL_law 631 = .ok (.iconst 1, 1) := by decide +kernel
theorem dL_law_632 : decode cL_law 632 = .ok (.iadd, 1) := by decide +kernel
theorem dL_law_633 : decode cL_law 633 = .ok (.iaload, 1) := by decide +kernel
theorem dL_law_634 : decode cL_law 634 = .ok (.aload_n 0, 1) := by decide +kernel
theorem dL_law_635 : decode cL_law 635 = .ok (.iload_n 3, 1) := by decide +kernel
theorem dL_law_636 : decode cL_law 636 = .ok (.iconst 2, 1) := by decide +kernel
theorem dL_law_637 : decode cL_law 637 = .ok (.iadd, 1) := by decide +kernel
theorem dL_law_638 : decode cL_law 638 = .ok (.iaload, 1) := by decide +kernel
theorem dL_law_639 : decode cL_law 639 = .ok (.aload_n 0, 1) := by decide +kernel
theorem dL_law_640 : decode cL_law 640 = .ok (.iload_n 3, 1) := by decide +kernel
theorem dL_law_641 : decode cL_law 641 = .ok (.iconst 3, 1) := by decide +kernel
theorem dL_law_642 : decode cL_law 642 = .ok (.iadd, 1) := by decide +kernel
theorem dL_law_643 : decode cL_law 643 = .ok (.iaload, 1) := by decide +kernel
theorem dL_law_644 : decode cL_law 644 = .ok (.invokevirtual 88, 3) := by decide +kernel
theorem dL_law_647 : decode cL_law 647 = .ok (.if_icmp .eq 246, 3) := by decide +kernel
theorem dL_law_650 : decode cL_law 650 = .ok (.iconst 0, 1) := by decide +kernel
theorem dL_law_651 : decode cL_law 651 = .ok (.ireturn, 1) := by decide +kernel
theorem dL_law_652 : decode cL_law 652 = .ok (.aload_n 1, 1) := by decide +kernel
theorem dL_law_653 : decode cL_law 653 = .ok (.aload_n 0, 1) := by decide +kernel
theorem dL_law_654 : decode cL_law 654 = .ok (.iload_n 3, 1) := by decide +kernel
theorem dL_law_655 : decode cL_law 655 = .ok (.iconst 1, 1) := by decide +kernel
theorem dL_law_656 : decode cL_law 656 = .ok (.iadd, 1) := by decide +kernel
theorem dL_law_657 : decode cL_law 657 = .ok (.iaload, 1) := by decide +kernel
theorem dL_law_658 : decode cL_law 658 = .ok (.aload_n 0, 1) := by decide +kernel
theorem dL_law_659 : decode cL_law 659 = .ok (.iload_n 3, 1) := by decide +kernel
theorem dL_law_660 : decode cL_law 660 = .ok (.iconst 2, 1) := by decide +kernel
theorem dL_law_661 : decode cL_law 661 = .ok (.iadd, 1) := by decide +kernel
theorem dL_law_662 : decode cL_law 662 = .ok (.iaload, 1) := by decide +kernel
theorem dL_law_663 : decode cL_law 663 = .ok (.aload_n 0, 1) := by decide +kernel
theorem dL_law_664 : decode cL_law 664 = .ok (.iload_n 3, 1) := by decide +kernel
theorem dL_law_665 : decode cL_law 665 = .ok (.iconst 3, 1) := by decide +kernel
theorem dL_law_666 : decode cL_law 666 = .ok (.iadd, 1) := by decide +kernel
theorem dL_law_667 : decode cL_law 667 = .ok (.iaload, 1) := by decide +kernel
theorem dL_law_668 : decode cL_law 668 = .ok (.invokevirtual 89, 3) := by decide +kernel
theorem dL_law_671 : decode cL_law 671 = .ok (.aload_n 2, 1) := by decide +kernel
theorem dL_law_672 : decode cL_law 672 = .ok (.aload_n 0, 1) := by decide +kernel
theorem dL_law_673 : decode cL_law 673 = .ok (.iload_n 3, 1) := by decide +kernel
theorem dL_law_674 : decode cL_law 674 = .ok (.iconst 1, 1) := by decide +kernel
theorem dL_law_675 : decode cL_law 675 = .ok (.iadd, 1) := by decide +kernel
theorem dL_law_676 : decode cL_law 676 = .ok (.iaload, 1) := by decide +kernel
theorem dL_law_677 : decode cL_law 677 = .ok (.aload_n 0, 1) := by decide +kernel
theorem dL_law_678 : decode cL_law 678 = .ok (.iload_n 3, 1) := by decide +kernel
theorem dL_law_679 : decode cL_law 679 = .ok (.iconst 2, 1) := by decide +kernel
theorem dL_law_680 : decode cL_law 680 = .ok (.iadd, 1) := by decide +kernel
theorem dL_law_681 : decode cL_law 681 = .ok (.iaload, 1) := by decide +kernel
theorem dL_law_682 : decode cL_law 682 = .ok (.aload_n 0, 1) := by decide +kernel
theorem dL_law_683 : decode cL_law 683 = .ok (.iload_n 3, 1) := by decide +kernel
theorem dL_law_684 : decode cL_law 684 = .ok (.iconst 3, 1) := by decide +kernel
theorem dL_law_685 : decode cL_law 685 = .ok (.iadd, 1) := by decide +kernel
theorem dL_law_686 : decode cL_law 686 = .ok (.iaload, 1) := by decide +kernel
theorem dL_law_687 : decode cL_law 687 = .ok (.invokevirtual 92, 3) := by decide +kernel
theorem dL_law_690 : decode cL_law 690 = .ok (.if_icmp .eq 203, 3) := by decide +kernel
theorem dL_law_693 : decode cL_law 693 = .ok (.iconst 0, 1) := by decide +kernel
theorem dL_law_694 : decode cL_law 694 = .ok (.ireturn, 1) := by decide +kernel
theorem dL_law_695 : decode cL_law 695 = .ok (.aload_n 1, 1) := by decide +kernel
theorem dL_law_696 : decode cL_law 696 = .ok (.aload_n 0, 1) := by decide +kernel
theorem dL_law_697 : decode cL_law 697 = .ok (.iload_n 3, 1) := by decide +kernel
theorem dL_law_698 : decode cL_law 698 = .ok (.iconst 1, 1) := by decide +kernel
theorem dL_law_699 : decode cL_law 699 = .ok (.iadd, 1) := by decide +kernel
theorem dL_law_700 : decode cL_law 700 = .ok (.iaload, 1) := by decide +kernel
theorem dL_law_701 : decode cL_law 701 = .ok (.aload_n 0, 1) := by decide +kernel
theorem dL_law_702 : decode cL_law 702 = .ok (.iload_n 3, 1) := by decide +kernel
theorem dL_law_703 : decode cL_law 703 = .ok (.iconst 2, 1) := by decide +kernel
theorem dL_law_704 : decode cL_law 704 = .ok (.iadd, 1) := by decide +kernel
theorem dL_law_705 : decode cL_law 705 = .ok (.iaload, 1) := by decide +kernel
theorem dL_law_706 : decode cL_law 706 = .ok (.invokevirtual 93, 3) := by decide +kernel
theorem dL_law_709 : decode cL_law 709 = .ok (.aload_n 2, 1) := by decide +kernel
theorem dL_law_710 : decode cL_law 710 = .ok (.aload_n 0, 1) := by decide +kernel
theorem dL_law_711 : decode cL_law 711 = .ok (.iload_n 3, 1) := by decide +kernel
theorem dL_law_712 : decode cL_law 712 = .ok (.iconst 1, 1) := by decide +kernel
theorem dL_law_713 : decode cL_law 713 = .ok (.iadd, 1) := by decide +kernel
theorem dL_law_714 : decode cL_law 714 = .ok (.iaload, 1) := by decide +kernel
theorem dL_law_715 : decode cL_law 715 = .ok (.aload_n 0, 1) := by decide +kernel
theorem dL_law_716 : decode cL_law 716 = .ok (.iload_n 3, 1) := by decide +kernel
theorem dL_law_717 : decode cL_law 717 = .ok (.iconst 2, 1) := by decide +kernel
theorem dL_law_718 : decode cL_law 718 = .ok (.iadd, 1) := by decide +kernel
theorem dL_law_719 : decode cL_law 719 = .ok (.iaload, 1) := by decide +kernel
theorem dL_law_720 : decode cL_law 720 = .ok (.invokevirtual 96, 3) := by decide +kernel
theorem dL_law_723 : decode cL_law 723 = .ok (.if_icmp .eq 170, 3) := by decide +kernel
theorem dL_law_726 : decode cL_law 726 = .ok (.iconst 0, 1) := by decide +kernel
theorem dL_law_727 : decode cL_law 727 = .ok (.ireturn, 1) := by decide +kernel
theorem dL_law_728 : decode cL_law 728 = .ok (.aload_n 1, 1) := by decide +kernel
theorem dL_law_729 : decode cL_law 729 = .ok (.aload_n 0, 1) := by decide +kernel
theorem dL_law_730 : decode cL_law 730 = .ok (.iload_n 3, 1) := by decide +kernel
theorem dL_law_731 : decode cL_law 731 = .ok (.iconst 1, 1) := by decide +kernel
theorem dL_law_732 : decode cL_law 732 = .ok (.iadd, 1) := by decide +kernel
theorem dL_law_733 : decode cL_law 733 = .ok (.iaload, 1) := by decide +kernel
theorem dL_law_734 : decode cL_law 734 = .ok (.aload_n 0, 1) := by decide +kernel
theorem dL_law_735 : decode cL_law 735 = .ok (.iload_n 3, 1) := by decide +kernel
theorem dL_law_736 : decode cL_law 736 = .ok (.iconst 2, 1) := by decide +kernel
theorem dL_law_737 : decode cL_law 737 = .ok (.iadd, 1) := by decide +kernel
theorem dL_law_738 : decode cL_law 738 = .ok (.iaload, 1) := by decide +kernel
theorem dL_law_739 : decode cL_law 739 = .ok (.aload_n 0, 1) := by decide +kernel
theorem dL_law_740 : decode cL_law 740 = .ok (.iload_n 3, 1) := by decide +kernel
theorem dL_law_741 : decode cL_law 741 = .ok (.iconst 3, 1) := by decide +kernel
theorem dL_law_742 : decode cL_law 742 = .ok (.iadd, 1) := by decide +kernel
theorem dL_law_743 : decode cL_law 743 = .ok (.iaload, 1) := by decide +kernel
theorem dL_law_744 : decode cL_law 744 = .ok (.invokevirtual 97, 3) := by decide +kernel
theorem dL_law_747 : decode cL_law 747 = .ok (.aload_n 2, 1) := by decide +kernel
theorem dL_law_748 : decode cL_law 748 = .ok (.aload_n 0, 1) := by decide +kernel
theorem dL_law_749 : decode cL_law 749 = .ok (.iload_n 3, 1) := by decide +kernel
theorem dL_law_750 : decode cL_law 750 = .ok (.iconst 1, 1) := by decide +kernel
theorem dL_law_751 : decode cL_law 751 = .ok (.iadd, 1) := by decide +kernel
theorem dL_law_752 : decode cL_law 752 = .ok (.iaload, 1) := by decide +kernel
theorem dL_law_753 : decode cL_law 753 = .ok (.aload_n 0, 1) := by decide +kernel
theorem dL_law_754 : decode cL_law 754 = .ok (.iload_n 3, 1) := by decide +kernel
theorem dL_law_755 : decode cL_law 755 = .ok (.iconst 2, 1) := by decide +kernel
theorem dL_law_756 : decode cL_law 756 = .ok (.iadd, 1) := by decide +kernel
theorem dL_law_757 : decode cL_law 757 = .ok (.iaload, 1) := by decide +kernel
theorem dL_law_758 : decode cL_law 758 = .ok (.aload_n 0, 1) := by decide +kernel
theorem dL_law_759 : decode cL_law 759 = .ok (.iload_n 3, 1) := by decide +kernel
theorem dL_law_760 : decode cL_law 760 = .ok (.iconst 3, 1) := by decide +kernel
theorem dL_law_761 : decode cL_law 761 = .ok (.iadd, 1) := by decide +kernel
theorem dL_law_762 : decode cL_law 762 = .ok (.iaload, 1) := by decide +kernel
theorem dL_law_763 : decode cL_law 763 = .ok (.invokevirtual 100, 3) := by decide +kernel
theorem dL_law_766 : decode cL_law 766 = .ok (.if_icmp .eq 127, 3) := by decide +kernel
theorem dL_law_769 : decode cL_law 769 = .ok (.iconst 0, 1) := by decide +kernel
theorem dL_law_770 : decode cL_law 770 = .ok (.ireturn, 1) := by decide +kernel
theorem dL_law_771 : decode cL_law 771 = .ok (.aload_n 1, 1) := by decide +kernel
theorem dL_law_772 : decode cL_law 772 = .ok (.aload_n 0, 1) := by decide +kernel
theorem dL_law_773 : decode cL_law 773 = .ok (.iload_n 3, 1) := by decide +kernel
theorem dL_law_774 : decode cL_law 774 = .ok (.iconst 1, 1) := by decide +kernel
theorem dL_law_775 : decode cL_law 775 = .ok (.iadd, 1) := by decide +kernel
theorem dL_law_776 : decode cL_law 776 = .ok (.iaload, 1) := by decide +kernel
theorem dL_law_777 : decode cL_law 777 = .ok (.aload_n 0, 1) := by decide +kernel
theorem dL_law_778 : decode cL_law 778 = .ok (.iload_n 3, 1) := by decide +kernel
theorem dL_law_779 : decode cL_law 779 = .ok (.iconst 2, 1) := by decide +kernel
theorem dL_law_780 : decode cL_law 780 = .ok (.iadd, 1) := by decide +kernel
theorem dL_law_781 : decode cL_law 781 = .ok (.iaload, 1) := by decide +kernel
theorem dL_law_782 : decode cL_law 782 = .ok (.invokevirtual 101, 3) := by decide +kernel
theorem dL_law_785 : decode cL_law 785 = .ok (.aload_n 2, 1) := by decide +kernel
theorem dL_law_786 : decode cL_law 786 = .ok (.aload_n 0, 1) := by decide +kernel
theorem dL_law_787 : decode cL_law 787 = .ok (.iload_n 3, 1) := by decide +kernel
theorem dL_law_788 : decode cL_law 788 = .ok (.iconst 1, 1) := by decide +kernel
theorem dL_law_789 : decode cL_law 789 = .ok (.iadd, 1) := by decide +kernel
theorem dL_law_790 : decode cL_law 790 = .ok (.iaload, 1) := by decide +kernel
theorem dL_law_791 : decode cL_law 791 = .ok (.aload_n 0, 1) := by decide +kernel
theorem dL_law_792 : decode cL_law 792 = .ok (.iload_n 3, 1) := by decide +kernel
theorem dL_law_793 : decode cL_law 793 = .ok (.iconst 2, 1) := by decide +kernel
theorem dL_law_794 : decode cL_law 794 = .ok (.iadd, 1) := by decide +kernel
theorem dL_law_795 : decode cL_law 795 = .ok (.iaload, 1) := by decide +kernel
theorem dL_law_796 : decode cL_law 796 = .ok (.invokevirtual 104, 3) := by decide +kernel
theorem dL_law_799 : decode cL_law 799 = .ok (.if_icmp .eq 94, 3) := by decide +kernel
theorem dL_law_802 : decode cL_law 802 = .ok (.iconst 0, 1) := by decide +kernel
theorem dL_law_803 : decode cL_law 803 = .ok (.ireturn, 1) := by decide +kernel
theorem dL_law_804 : decode cL_law 804 = .ok (.aload_n 1, 1) := by decide +kernel
theorem dL_law_805 : decode cL_law 805 = .ok (.aload_n 0, 1) := by decide +kernel
theorem dL_law_806 : decode cL_law 806 = .ok (.iload_n 3, 1) := by decide +kernel
theorem dL_law_807 : decode cL_law 807 = .ok (.iconst 1, 1) := by decide +kernel
theorem dL_law_808 : decode cL_law 808 = .ok (.iadd, 1) := by decide +kernel
theorem dL_law_809 : decode cL_law 809 = .ok (.iaload, 1) := by decide +kernel
theorem dL_law_810 : decode cL_law 810 = .ok (.aload_n 0, 1) := by decide +kernel
theorem dL_law_811 : decode cL_law 811 = .ok (.iload_n 3, 1) := by decide +kernel
theorem dL_law_812 : decode cL_law 812 = .ok (.iconst 2, 1) := by decide +kernel
theorem dL_law_813 : decode cL_law 813 = .ok (.iadd, 1) := by decide +kernel
theorem dL_law_814 : decode cL_law 814 = .ok (.iaload, 1) := by decide +kernel
theorem dL_law_815 : decode cL_law 815 = .ok (.invokevirtual 105, 3) := by decide +kernel
theorem dL_law_818 : decode cL_law 818 = .ok (.aload_n 2, 1) := by decide +kernel
theorem dL_law_819 : decode cL_law 819 = .ok (.aload_n 0, 1) := by decide +kernel
theorem dL_law_820 : decode cL_law 820 = .ok (.iload_n 3, 1) := by decide +kernel
theorem dL_law_821 : decode cL_law 821 = .ok (.iconst 1, 1) := by decide +kernel
theorem dL_law_822 : decode cL_law 822 = .ok (.iadd, 1) := by decide +kernel
theorem dL_law_823 : decode cL_law 823 = .ok (.iaload, 1) := by decide +kernel
theorem dL_law_824 : decode cL_law 824 = .ok (.aload_n 0, 1) := by decide +kernel
theorem dL_law_825 : decode cL_law 825 = .ok (.iload_n 3, 1) := by decide +kernel
theorem dL_law_826 : decode cL_law 826 = .ok (.iconst 2, 1) := by decide +kernel
theorem dL_law_827 : decode cL_law 827 = .ok (.iadd, 1) := by decide +kernel
theorem dL_law_828 : decode cL_law 828 = .ok (.iaload, 1) := by decide +kernel
theorem dL_law_829 : decode cL_law 829 = .ok (.invokevirtual 108, 3) := by decide +kernel
theorem dL_law_832 : decode cL_law 832 = .ok (.if_icmp .eq 61, 3) := by decide +kernel
theorem dL_law_835 : decode cL_law 835 = .ok (.iconst 0, 1) := by decide +kernel
theorem dL_law_836 : decode cL_law 836 = .ok (.ireturn, 1) := by decide +kernel
theorem dL_law_837 : decode cL_law 837 = .ok (.aload_n 1, 1) := by decide +kernel
theorem dL_law_838 : decode cL_law 838 = .ok (.aload_n 0, 1) := by decide +kernel
theorem dL_law_839 : decode cL_law 839 = .ok (.iload_n 3, 1) := by decide +kernel
theorem dL_law_840 : decode cL_law 840 = .ok (.iconst 1, 1) := by decide +kernel
theorem dL_law_841 : decode cL_law 841 = .ok (.iadd, 1) := by decide +kernel
theorem dL_law_842 : decode cL_law 842 = .ok (.iaload, 1) := by decide +kernel
theorem dL_law_843 : decode cL_law 843 = .ok (.aload_n 0, 1) := by decide +kernel
theorem dL_law_844 : decode cL_law 844 = .ok (.iload_n 3, 1) := by decide +kernel
theorem dL_law_845 : decode cL_law 845 = .ok (.iconst 2, 1) := by decide +kernel
theorem dL_law_846 : decode cL_law 846 = .ok (.iadd, 1) := by decide +kernel
theorem dL_law_847 : decode cL_law 847 = .ok (.iaload, 1) := by decide +kernel
theorem dL_law_848 : decode cL_law 848 = .ok (.invokevirtual 109, 3) := by decide +kernel
theorem dL_law_851 : decode cL_law 851 = .ok (.aload_n 2, 1) := by decide +kernel
theorem dL_law_852 : decode cL_law 852 = .ok (.aload_n 0, 1) := by decide +kernel
theorem dL_law_853 : decode cL_law 853 = .ok (.iload_n 3, 1) := by decide +kernel
theorem dL_law_854 : decode cL_law 854 = .ok (.iconst 1, 1) := by decide +kernel
theorem dL_law_855 : decode cL_law 855 = .ok (.iadd, 1) := by decide +kernel
theorem dL_law_856 : decode cL_law 856 = .ok (.iaload, 1) := by decide +kernel
theorem dL_law_857 : decode cL_law 857 = .ok (.aload_n 0, 1) := by decide +kernel
theorem dL_law_858 : decode cL_law 858 = .ok (.iload_n 3, 1) := by decide +kernel
theorem dL_law_859 : decode cL_law 859 = .ok (.iconst 2, 1) := by decide +kernel
theorem dL_law_860 : decode cL_law 860 = .ok (.iadd, 1) := by decide +kernel
theorem dL_law_861 : decode cL_law 861 = .ok (.iaload, 1) := by decide +kernel
theorem dL_law_862 : decode cL_law 862 = .ok (.invokevirtual 112, 3) := by decide +kernel
theorem dL_law_865 : decode cL_law 865 = .ok (.if_icmp .eq 28, 3) := by decide +kernel
theorem dL_law_868 : decode cL_law 868 = .ok (.iconst 0, 1) := by decide +kernel
theorem dL_law_869 : decode cL_law 869 = .ok (.ireturn, 1) := by decide +kernel
theorem dL_law_870 : decode cL_law 870 = .ok (.aload_n 1, 1) := by decide +kernel
theorem dL_law_871 : decode cL_law 871 = .ok (.aload_n 0, 1) := by decide +kernel
theorem dL_law_872 : decode cL_law 872 = .ok (.iload_n 3, 1) := by decide +kernel
theorem dL_law_873 : decode cL_law 873 = .ok (.iconst 1, 1) := by decide +kernel
theorem dL_law_874 : decode cL_law 874 = .ok (.iadd, 1) := by decide +kernel
theorem dL_law_875 : decode cL_law 875 = .ok (.iaload, 1) := by decide +kernel
theorem dL_law_876 : decode cL_law 876 = .ok (.invokevirtual 113, 3) := by decide +kernel
theorem dL_law_879 : decode cL_law 879 = .ok (.aload_n 2, 1) := by decide +kernel
theorem dL_law_880 : decode cL_law 880 = .ok (.aload_n 0, 1) := by decide +kernel
theorem dL_law_881 : decode cL_law 881 = .ok (.iload_n 3, 1) := by decide +kernel
theorem dL_law_882 : decode cL_law 882 = .ok (.iconst 1, 1) := by decide +kernel
theorem dL_law_883 : decode cL_law 883 = .ok (.iadd, 1) := by decide +kernel
theorem dL_law_884 : decode cL_law 884 = .ok (.iaload, 1) := by decide +kernel
theorem dL_law_885 : decode cL_law 885 = .ok (.invokevirtual 116, 3) := by decide +kernel
theorem dL_law_888 : decode cL_law 888 = .ok (.if_icmp .eq 5, 3) := by decide +kernel
theorem dL_law_891 : decode cL_law 891 = .ok (.iconst 0, 1) := by decide +kernel
theorem dL_law_892 : decode cL_law 892 = .ok (.ireturn, 1) := by decide +kernel
theorem dL_law_893 : decode cL_law 893 = .ok (.iinc 3 4, 3) := by decide +kernel
theorem dL_law_896 : decode cL_law 896 = .ok (.goto (-878), 3) := by decide +kernel
theorem dL_law_899 : decode cL_law 899 = .ok (.iconst 1, 1) := by decide +kernel
theorem dL_law_900 : decode cL_law 900 = .ok (.ireturn, 1) := by decide +kernel
end
section
/-! ===== numbers: an int as zI of an integer ===== -/
def zI (x : Int) : Int32 := Int32.ofInt x
abbrev vi (x : Int) : Value := .int (zI x)
def zR (f : Int → Int) : Nat → Int32 := fun j => zI (f (j : Int))
def zU (f : Int → Int) (i v : Int) : Int → Int := fun k => if k = i then v else f k
theorem zU_eq (f : Int → Int) (i v : Int) : zU f i v i = v := if_pos rfl
theorem zU_ne (f : Int → Int) {i k : Int} (v : Int) (h : k ≠ i) : zU f i v k = f k := if_neg h
theorem zI_toInt {x : Int} (h : -2147483648 ≤ x ∧ x ≤ 2147483647) : (zI x).toInt = x := Int32.toInt_ofInt_of_le (by omega) (by omega)
theorem zI_self (x : Int32) : zI x.toInt = x := Int32.ofInt_toInt x
theorem zI_lt {x y : Int} (h : -2147483648 ≤ x ∧ x ≤ 2147483647 ∧ -2147483648 ≤ y ∧ y ≤ 2147483647) : zI x < zI y ↔ x < y := by
  rw [Int32.lt_iff_toInt_lt, zI_toInt ⟨h.1, h.2.1⟩, zI_toInt h.2.2]
theorem zI_le {x y : Int} (h : -2147483648 ≤ x ∧ x ≤ 2147483647 ∧ -2147483648 ≤ y ∧ y ≤ 2147483647) : zI x ≤ zI y ↔ x ≤ y := by
  rw [Int32.le_iff_toInt_le, zI_toInt ⟨h.1, h.2.1⟩, zI_toInt h.2.2]
theorem zI_eq {x y : Int} (h : -2147483648 ≤ x ∧ x ≤ 2147483647 ∧ -2147483648 ≤ y ∧ y ≤ 2147483647) : zI x = zI y ↔ x = y := by
  rw [← Int32.toInt_inj, zI_toInt ⟨h.1, h.2.1⟩, zI_toInt h.2.2]
theorem zI_cl {i : Int} (h : 0 ≤ i ∧ i ≤ 2147483647) : (zI i).toNatClampNeg = i.toNat := Int32.toNatClampNeg_ofInt_of_le (by omega) (by omega)
theorem zI_add (x y : Int) : zI x + zI y = zI (x + y) := (Int32.ofInt_add x y).symm
theorem zI_sub (x y : Int) : zI x - zI y = zI (x - y) := (Int32.ofInt_sub x y).symm
theorem zI_mul (x y : Int) : zI x * zI y = zI (x * y) := (Int32.ofInt_mul x y).symm
theorem zI_neg (x : Int) : - zI x = zI (-x) := (Int32.ofInt_neg x).symm
theorem zI_nat (n : Nat) : Int32.ofNat n = zI (n : Int) := by
  unfold zI; simp [Int32.ofInt_eq_ofNat]
theorem zI_div {x y : Int} (h : 0 ≤ x ∧ x ≤ 2147483647 ∧ 0 < y ∧ y ≤ 2147483647) : zI x / zI y = zI (x / y) := by
  have hq : 0 ≤ x / y := Int.ediv_nonneg h.1 (by omega)
  have hq2 : x / y ≤ x := Int.ediv_le_self y h.1
  apply Int32.toInt_inj.mp
  rw [Int32.toInt_div_of_ne_right _ _ (by
    intro hh
    have := congrArg Int32.toInt hh
    rw [zI_toInt (by omega)] at this
    rw [show (-1 : Int32).toInt = -1 from rfl] at this
    omega), zI_toInt (by omega), zI_toInt (by omega), zI_toInt (by omega), Int.tdiv_eq_ediv_of_nonneg h.1]
theorem zI_rem {x y : Int} (h : 0 ≤ x ∧ x ≤ 2147483647 ∧ 0 < y ∧ y ≤ 2147483647) : zI x - zI x / zI y * zI y = zI (x % y) := by
  rw [zI_div h, zI_mul, zI_sub]
  congr 1
  have := Int.mul_ediv_add_emod x y
  rw [Int.mul_comm] at this
  omega
theorem zI_in {i : Int} {n : Nat} (hn : Nat.ble n 1000000 = true) (h : 0 ≤ i ∧ i < n) : vp_in (zI i) n := by
  have := Nat.le_of_ble_eq_true hn
  exact vp_in_iff.mpr (by rw [zI_toInt (by omega)]; exact h)
theorem zR_at {f : Int → Int} {i : Int} {n : Nat} (hn : Nat.ble n 1000000 = true) (h : 0 ≤ i ∧ i < n) : zR f (zI i).toNatClampNeg = zI (f i) := by
  have := Nat.le_of_ble_eq_true hn
  rw [zI_cl (by omega), zR, Int.toNat_of_nonneg h.1]
theorem zR_up {f : Int → Int} {i v : Int} {n : Nat} (hn : Nat.ble n 1000000 = true) (h : 0 ≤ i ∧ i < n) : upd (zR f) (zI i).toNatClampNeg (zI v) = zR (zU f i v) := by
  have := Nat.le_of_ble_eq_true hn
  funext j
  rw [zI_cl (by omega)]
  unfold upd zR zU
  by_cases hj : j = i.toNat
  · rw [if_pos hj, if_pos (by rw [hj]; exact Int.toNat_of_nonneg h.1)]
  · rw [if_neg hj, if_neg (by omega)]
theorem zR_of (r : Nat → Int32) : r = zR (fun k => (r k.toNat).toInt) := by
  funext j
  show r j = zI (r ((j : Int)).toNat).toInt
  rw [Int.toNat_natCast, zI_self]
theorem zI_b8 (n : Int) (h : (Int8.ofInt n).toInt32 = zI n) : (Int8.ofInt n).toInt32 = zI n := h
/-! ===== the tables: array classes, nest mates, statics ===== -/
abbrev Gx : Type := va_G × ClassId × ClassId × ClassId × ClassId
abbrev tyG (g : Gx) : List (ClassId × FieldType) := [(g.2.1, .char), (g.2.2.1, .int), (g.2.2.2.1, .boolean), (g.2.2.2.2, .object RX7)]
abbrev aC (g : Gx) (n : Nat) (f : Int → Int) : va_E := .inl (g.2.1, n, .inl (zR f))
abbrev aI (g : Gx) (n : Nat) (f : Int → Int) : va_E := .inl (g.2.2.1, n, .inl (zR f))
abbrev aZ (g : Gx) (n : Nat) (f : Int → Int) : va_E := .inl (g.2.2.2.1, n, .inl (zR f))
abbrev aQ (g : Gx) (n : Nat) (f : Nat → Option Nat) : va_E := .inl (g.2.2.2.2, n, .inr (.inr (.inr (.inr f))))
abbrev oB (ci : Nat) (fs : List Value) : va_E := .inr (ci, fs)
def Nst (U : State) : Prop := (∀ q ∈ nwF, va_Nw (.fieldLinkNest q.1 q.2.1 q.2.2.1 q.2.2.2.1 q.2.2.2.2.1 q.2.2.2.2.2) U) ∧ ∀ q ∈ nwM, va_Nw (.methodLinkNest q.1 q.2.1 q.2.2.1 q.2.2.2) U
theorem Nst.warm {s U : State} (hW : s.WarmedH U.vm) (h : Nst s) : Nst U := ⟨fun q hq => va_Nw.warmF hW (h.1 q hq), fun q hq => va_Nw.warmM hW (h.2 q hq)⟩
theorem Nst.same {s U : State} (hv : s.vm = U.vm) (h : Nst s) : Nst U := ⟨fun q hq => va_Nw.same rfl hv (h.1 q hq), fun q hq => va_Nw.same rfl hv (h.2 q hq)⟩
def stp1 : Nat → Value := fun j => vi (if j = 0 then 1 else if j = 1 then 1 else 3)
def stp2 : Nat → Value := fun j => vi (if j = 0 then 2 else if j = 1 then 1 else 4)
def ZG (A : Nat → Prop) (U : State) (H : Heap) : Prop := ∃ a1 a2 : Nat, va_Z RX1 "STRAIGHT_STEP" "[I" (.ref a1) A U H ∧ va_T .int a1 3 stp1 A U H ∧ va_Z RX1 "SLANTED_STEP" "[I" (.ref a2) A U H ∧ va_T .int a2 3 stp2 A U H
theorem ZG.moved {A : Nat → Prop} {u U : State} {H : Heap} (hv : u.vm.Alike U.vm) (h : ZG A u H) : ZG A U H := by
  obtain ⟨a1, a2, h1, h2, h3, h4⟩ := h
  exact ⟨a1, a2, h1.moved hv, h2.moved hv, h3.moved hv, h4.moved hv⟩
theorem ZG.kept {A : Nat → Prop} {U : State} {H H1 : Heap} (h : ZG A U H) (hq : ∀ a : Nat, a < H.size → ¬ A a → H1[a]? = H[a]?) : ZG A U H1 := by
  obtain ⟨a1, a2, h1, h2, h3, h4⟩ := h
  exact ⟨a1, a2, h1.kept hq, h2.kept hq, h3.kept hq, h4.kept hq⟩
theorem ZG.narrow {A B : Nat → Prop} {U : State} {H : Heap} (h : ZG A U H) (hAB : ∀ q, B q → A q) : ZG B U H := by
  obtain ⟨a1, a2, h1, h2, h3, h4⟩ := h
  exact ⟨a1, a2, h1.narrow hAB, h2.narrow hAB, h3.narrow hAB, h4.narrow hAB⟩
/-! ===== what holds all along a walk; a walk's state ===== -/
def CX (g : Gx) (own : String) (cc : ByteArray) (nL : Nat) (ret : Option FieldType) (A : Nat → Prop) (p : Program) (s : State) (m : MethodId) (args : Array Value) (meth : Method) (c : Code) : Prop :=
  p.tables.exec = Jvm.exec ∧ c.code = cc ∧ c.maxLocals = nL ∧ s.vm.findClass own = some m.cls ∧ (∀ w ∈ wsL_law, w.before args s = true) ∧ va_K g.1 vwCl (tyG g) s ∧ Nst s ∧ meth.sig.returnType = ret ∧ meth.locks = false ∧ (∀ q : Nat, s.heap.size ≤ q → A q) ∧ ZG A s s.heap
def RUN (g : Gx) (nL : Nat) (p : Program) (l : Launch) (e : Env) (R : Room) (s : State) (m : MethodId) (args : Array Value) (below : List Frame) (meth : Method) (c : Code) (A : Nat → Prop) (cells slots : Nat) (Q : State → Prop) (ws : va_W) (pc : Nat) (lv : List (Nat × Value)) (st : List Value) : Prop :=
  ∀ (ls : Array Slot) (H : Heap) (locs : List Loc), lv_has ls nL lv → va_P g.1 vwCl ws H → va_D A ws → va_S A s.heap H locs → W p l e R s m args below meth c H locs cells slots Q (F0 m pc ls st)
def PR (g : Gx) (av : List Value) (ws : va_W) (sz : Nat) : Array Value → State → Prop :=
  va_Pc av (fun U => U.heap.size = sz ∧ va_P g.1 vwCl ws U.heap ∧ va_K g.1 vwCl (tyG g) U ∧ va_D (fun _ => True) ws ∧ Nst U ∧ ZG (va_A ws sz) U U.heap)
def PB {S : Type} (g : Gx) (Wf : S → va_W) (ws : va_W) (sz : Nat) (u : S) (t : State) : Prop := va_P g.1 vwCl (Wf u) t.heap ∧ va_D (va_A ws sz) (Wf u)
def PI {S : Type} (g : Gx) (post : Int → S → Prop) (Wf : S → va_W) (ws : va_W) (sz : Nat) : Array Value → State → Outcome → State → Prop :=
  va_Qi (fun r u => ∃ x : Int, r = zI x ∧ post x u) (PB g Wf ws sz) (va_A ws sz)
def PV {S : Type} (g : Gx) (post : S → Prop) (Wf : S → va_W) (ws : va_W) (sz : Nat) : Array Value → State → Outcome → State → Prop :=
  va_Qv post (PB g Wf ws sz) (va_A ws sz)
def PA {S : Type} (g : Gx) (b : Nat) (post : S → Prop) (Wf : S → va_W) (ws : va_W) (sz : Nat) : Array Value → State → Outcome → State → Prop :=
  va_Qr post (fun u a t => a = b ∧ PB g Wf ws sz u t) (va_A ws sz)
theorem PR.blind {g : Gx} {av : List Value} {ws : va_W} {sz : Nat} : FrameBlind (PR g av ws sz) := by
  intro a U f mk h
  obtain ⟨q0, q1, qP, qK, qD, qN, qZ⟩ := h
  exact ⟨q0, q1, qP, va_K.moved (u := U) (U := U.calling f mk a) (Vm.Alike.refl U.vm) qK, qD, Nst.same (s := U) (U := U.calling f mk a) rfl qN, ZG.moved (u := U) (U := U.calling f mk a) (Vm.Alike.refl U.vm) qZ⟩
/-! ===== putting back what a call gave ===== -/
def wput : va_W → List Nat → va_W → va_W
  | ws, i :: is, e :: es => wput (ws.set i e) is es
  | ws, [], _ => ws
  | ws, _ :: _, [] => ws
theorem wput_get : ∀ (is : List Nat) (es : va_W) (ws : va_W) (k : Nat) (q : Nat × va_E), is.length = es.length → (wput ws is es)[k]? = some q → (∃ j : Nat, is[j]? = some k ∧ es[j]? = some q) ∨ (ws[k]? = some q ∧ k ∉ is) := by
  intro is
  induction is with
  | nil => intro es ws k q _ h; exact Or.inr ⟨by simpa [wput] using h, List.not_mem_nil⟩
  | cons i is ih =>
    intro es ws k q hl h
    cases es with
    | nil => simp at hl
    | cons e es =>
      rcases ih es (ws.set i e) k q (by simpa using hl) h with ⟨j, h1, h2⟩ | ⟨h1, h2⟩
      · exact Or.inl ⟨j + 1, by simpa using h1, by simpa using h2⟩
      · by_cases hk : i = k
        · subst hk
          rw [List.getElem?_set] at h1
          simp only [if_true] at h1
          split at h1
          · exact Or.inl ⟨0, by simp, by simpa using h1⟩
          · cases h1
        · rw [List.getElem?_set_ne hk] at h1
          exact Or.inr ⟨h1, by simp only [List.mem_cons, not_or]; exact ⟨fun e => hk e.symm, h2⟩⟩
theorem map_some_get {α : Type} {is : List Nat} {ws wc : List α} (h : is.map (fun i => ws[i]?) = wc.map some) {j k : Nat} (hj : is[j]? = some k) : ∃ q, wc[j]? = some q ∧ ws[k]? = some q := by
  have h1 := congrArg (fun l => l[j]?) h
  simp only [List.getElem?_map, hj, Option.map_some] at h1
  cases hw : wc[j]? with
  | none => rw [hw] at h1; simp at h1
  | some q => rw [hw] at h1; exact ⟨q, rfl, by simpa using h1⟩
theorem wput_adr {ws wc w1 : va_W} {is : List Nat} (hC : is.map (fun i => ws[i]?) = wc.map some) (ha : w1.map Prod.fst = wc.map Prod.fst) {k : Nat} {q : Nat × va_E} (h : (wput ws is w1)[k]? = some q) : ∃ q' : Nat × va_E, ws[k]? = some q' ∧ q'.1 = q.1 := by
  have hl1 : is.length = wc.length := by simpa using congrArg List.length hC
  have hl2 : w1.length = wc.length := by simpa using congrArg List.length ha
  rcases wput_get is w1 ws k q (by omega) h with ⟨j, h1, h2⟩ | ⟨h1, -⟩
  · obtain ⟨q', h3, h4⟩ := map_some_get hC h1
    have h5 := congrArg (fun l => l[j]?) ha
    simp only [List.getElem?_map, h2, h3, Option.map_some] at h5
    exact ⟨q', h4, (Option.some.inj h5).symm⟩
  · exact ⟨q, h1, rfl⟩
theorem wput_P {A0 : Nat → Prop} {D : va_G} {cl : List vw_C} {ws wc w1 : va_W} {H H1 : Heap} {is : List Nat} (hP : va_P D cl ws H) (hD : va_D A0 ws) (hC : is.map (fun i => ws[i]?) = wc.map some) (ha : w1.map Prod.fst = wc.map Prod.fst)
    (hk : ∀ q : Nat, q < H.size → ¬ va_A wc H.size q → H1[q]? = H[q]?) (hP1 : va_P D cl w1 H1) : va_P D cl (wput ws is w1) H1 ∧ va_D A0 (wput ws is w1) := by
  have hl1 : is.length = wc.length := by simpa using congrArg List.length hC
  have hl2 : w1.length = wc.length := by simpa using congrArg List.length ha
  refine ⟨fun k q hq => ?_, fun i j p q hi hj hpq => ?_, fun k q hq => ?_⟩
  · rcases wput_get is w1 ws k q (by omega) hq with ⟨j, -, h2⟩ | ⟨h1, h2⟩
    · exact hP1 j q h2
    · have hat := hP k q h1
      refine va_at.kept hat (hk _ (va_at.lt hat) ?_)
      rintro (⟨j, e, hj⟩ | hge)
      · have hjl : j < is.length := by
          rw [hl1]
          exact (List.getElem?_eq_some_iff.mp hj).1
        obtain ⟨q', h3, h4⟩ := map_some_get hC (List.getElem?_eq_getElem hjl)
        rw [hj] at h3
        cases h3
        have := hD.1 k is[j] q (q.1, e) h1 h4 rfl
        exact h2 (this ▸ List.getElem_mem hjl)
      · exact absurd (va_at.lt hat) (Nat.not_lt.mpr hge)
  · obtain ⟨p', h1, h2⟩ := wput_adr hC ha hi
    obtain ⟨q', h3, h4⟩ := wput_adr hC ha hj
    exact hD.1 i j p' q' h1 h3 (by rw [h2, h4]; exact hpq)
  · obtain ⟨q', h1, h2⟩ := wput_adr hC ha hq
    rw [← h2]
    exact hD.2 k q' h1
end
section
theorem qs_max : Cond.static Lib.Math.max.name ∈ wsL_law := in_r22 (List.mem_of_getElem? (i := 21) rfl)
theorem qc_max : Cond.code Lib.Math.max.name Lib.Math.max.code 2 (some .int) ∈ wsL_law := in_r22 (List.mem_of_getElem? (i := 22) rfl)
theorem qs_min : Cond.static Lib.Math.min.name ∈ wsL_law := in_r17 (List.mem_of_getElem? (i := 2) rfl)
theorem qc_min : Cond.code Lib.Math.min.name Lib.Math.min.code 2 (some .int) ∈ wsL_law := in_r17 (List.mem_of_getElem? (i := 4) rfl)
theorem qs_abs : Cond.static Lib.Math.abs.name ∈ wsL_law := in_r22 (List.mem_of_getElem? (i := 18) rfl)
theorem qc_abs : Cond.code Lib.Math.abs.name Lib.Math.abs.code 1 (some .int) ∈ wsL_law := in_r22 (List.mem_of_getElem? (i := 19) rfl)
theorem qs_Math : Cond.initialized "java/lang/Math" ∈ wsL_law := in_r17 (List.mem_of_getElem? (i := 3) rfl)
section
variable {g : Gx} {own : String} {cc : ByteArray} {nL : Nat} {ret : Option FieldType} {p : Program} {l : Launch} {e : Env} {R : Room} {s : State} {m : MethodId} {args : Array Value} {below : List Frame} {meth : Method} {c : Code} {A : Nat → Prop} {cells slots : Nat} {Q : State → Prop} {ws : va_W} {pc : Nat} {lv : List (Nat × Value)} {st : List Value}
theorem r_iconst (C : CX g own cc nL ret A p s m args meth c) {n : Int} (hd : decode cc pc = .ok (.iconst n, 1)) (k : RUN g nL p l e R s m args below meth c A cells slots Q ws (pc + 1) lv (vi n :: st)) : RUN g nL p l e R s m args below meth c A cells slots Q ws pc lv st :=
  fun ls H locs h1 h2 h3 h4 => lv_iconst C.1 C.2.1 hd rfl (k ls H locs h1 h2 h3 h4)
theorem r_bipush (C : CX g own cc nL ret A p s m args meth c) {n : Int} (hd : decode cc pc = .ok (.bipush n, 2)) (hn : (Int8.ofInt n).toInt32 = zI n) (k : RUN g nL p l e R s m args below meth c A cells slots Q ws (pc + 2) lv (vi n :: st)) : RUN g nL p l e R s m args below meth c A cells slots Q ws pc lv st :=
  fun ls H locs h1 h2 h3 h4 => lv_bipush C.1 C.2.1 hd hn (k ls H locs h1 h2 h3 h4)
theorem r_sipush (C : CX g own cc nL ret A p s m args meth c) {n : Int} (hd : decode cc pc = .ok (.sipush n, 3)) (hn : (Int16.ofInt n).toInt32 = zI n) (k : RUN g nL p l e R s m args below meth c A cells slots Q ws (pc + 3) lv (vi n :: st)) : RUN g nL p l e R s m args below meth c A cells slots Q ws pc lv st :=
  fun ls H locs h1 h2 h3 h4 => lv_sipush C.1 C.2.1 hd hn (k ls H locs h1 h2 h3 h4)
theorem r_ldc (C : CX g own cc nL ret A p s m args meth c) {i : Nat} {n : Int} {v : Int32} (hw : Cond.constant own i v ∈ wsL_law) (hv : v = zI n) (hd : decode cc pc = .ok (.ldc i, 2)) (k : RUN g nL p l e R s m args below meth c A cells slots Q ws (pc + 2) lv (vi n :: st)) : RUN g nL p l e R s m args below meth c A cells slots Q ws pc lv st :=
  fun ls H locs h1 h2 h3 h4 => by
  subst hv
  exact lv_ldc C.1 C.2.1 C.2.2.2.1 (C.2.2.2.2.1 _ hw) hd (k ls H locs h1 h2 h3 h4)
theorem r_ldcw (C : CX g own cc nL ret A p s m args meth c) {i : Nat} {n : Int} {v : Int32} (hw : Cond.constant own i v ∈ wsL_law) (hv : v = zI n) (hd : decode cc pc = .ok (.ldc_w i, 3)) (k : RUN g nL p l e R s m args below meth c A cells slots Q ws (pc + 3) lv (vi n :: st)) : RUN g nL p l e R s m args below meth c A cells slots Q ws pc lv st :=
  fun ls H locs h1 h2 h3 h4 => by
  subst hv
  exact lv_ldcw C.1 C.2.1 C.2.2.2.1 (C.2.2.2.2.1 _ hw) hd (k ls H locs h1 h2 h3 h4)
theorem r_iload_n (C : CX g own cc nL ret A p s m args meth c) {f : Fin 4} {x : Int} (hd : decode cc pc = .ok (.iload_n f, 1)) (j : Nat) (hj : lv[j]? = some ((f : Nat), vi x)) (k : RUN g nL p l e R s m args below meth c A cells slots Q ws (pc + 1) lv (vi x :: st)) : RUN g nL p l e R s m args below meth c A cells slots Q ws pc lv st :=
  fun ls H locs h1 h2 h3 h4 => lv_iload_n C.1 C.2.1 hd rfl (lv_at h1 j hj) (k ls H locs h1 h2 h3 h4)
theorem r_iload (C : CX g own cc nL ret A p s m args meth c) {i : Nat} {x : Int} (hd : decode cc pc = .ok (.iload i, 2)) (j : Nat) (hj : lv[j]? = some (i, vi x)) (k : RUN g nL p l e R s m args below meth c A cells slots Q ws (pc + 2) lv (vi x :: st)) : RUN g nL p l e R s m args below meth c A cells slots Q ws pc lv st :=
  fun ls H locs h1 h2 h3 h4 => lv_iload C.1 C.2.1 hd (lv_at h1 j hj) (k ls H locs h1 h2 h3 h4)
theorem r_aload_n (C : CX g own cc nL ret A p s m args meth c) {f : Fin 4} {a : Nat} (hd : decode cc pc = .ok (.aload_n f, 1)) (j : Nat) (hj : lv[j]? = some ((f : Nat), .ref a)) (k : RUN g nL p l e R s m args below meth c A cells slots Q ws (pc + 1) lv (.ref a :: st)) : RUN g nL p l e R s m args below meth c A cells slots Q ws pc lv st :=
  fun ls H locs h1 h2 h3 h4 => lv_aload_n C.1 C.2.1 hd rfl (lv_at h1 j hj) (k ls H locs h1 h2 h3 h4)
theorem r_aload (C : CX g own cc nL ret A p s m args meth c) {i : Nat} {a : Nat} (hd : decode cc pc = .ok (.aload i, 2)) (j : Nat) (hj : lv[j]? = some (i, .ref a)) (k : RUN g nL p l e R s m args below meth c A cells slots Q ws (pc + 2) lv (.ref a :: st)) : RUN g nL p l e R s m args below meth c A cells slots Q ws pc lv st :=
  fun ls H locs h1 h2 h3 h4 => lv_aload C.1 C.2.1 hd (lv_at h1 j hj) (k ls H locs h1 h2 h3 h4)
theorem r_istore_n (C : CX g own cc nL ret A p s m args meth c) {f : Fin 4} {x : Int} {lv' : List (Nat × Value)} (hd : decode cc pc = .ok (.istore_n f, 1)) (hn : Nat.ble ((f : Nat) + 1) nL = true) (hl : ((f : Nat), vi x) :: lv.filter (fun q => !(q.1 == (f : Nat)) && !(q.1 + 1 == (f : Nat) && q.2.category == 2)) = lv') (k : RUN g nL p l e R s m args below meth c A cells slots Q ws (pc + 1) lv' st) : RUN g nL p l e R s m args below meth c A cells slots Q ws pc lv (vi x :: st) :=
  fun ls H locs h1 h2 h3 h4 => lv_istore_n C.1 C.2.1 hd rfl h1 (Nat.le_of_ble_eq_true hn) hl (fun ls h1 => k ls H locs h1 h2 h3 h4)
theorem r_istore (C : CX g own cc nL ret A p s m args meth c) {i : Nat} {x : Int} {lv' : List (Nat × Value)} (hd : decode cc pc = .ok (.istore i, 2)) (hn : Nat.ble (i + 1) nL = true) (hl : (i, vi x) :: lv.filter (fun q => !(q.1 == i) && !(q.1 + 1 == i && q.2.category == 2)) = lv') (k : RUN g nL p l e R s m args below meth c A cells slots Q ws (pc + 2) lv' st) : RUN g nL p l e R s m args below meth c A cells slots Q ws pc lv (vi x :: st) :=
  fun ls H locs h1 h2 h3 h4 => lv_istore C.1 C.2.1 hd h1 (Nat.le_of_ble_eq_true hn) hl (fun ls h1 => k ls H locs h1 h2 h3 h4)
theorem r_astore_n (C : CX g own cc nL ret A p s m args meth c) {f : Fin 4} {a : Nat} {lv' : List (Nat × Value)} (hd : decode cc pc = .ok (.astore_n f, 1)) (hn : Nat.ble ((f : Nat) + 1) nL = true) (hl : ((f : Nat), Value.ref a) :: lv.filter (fun q => !(q.1 == (f : Nat)) && !(q.1 + 1 == (f : Nat) && q.2.category == 2)) = lv') (k : RUN g nL p l e R s m args below meth c A cells slots Q ws (pc + 1) lv' st) : RUN g nL p l e R s m args below meth c A cells slots Q ws pc lv (.ref a :: st) :=
  fun ls H locs h1 h2 h3 h4 => lv_astore_n C.1 C.2.1 hd rfl h1 (Nat.le_of_ble_eq_true hn) hl (fun ls h1 => k ls H locs h1 h2 h3 h4)
theorem r_astore (C : CX g own cc nL ret A p s m args meth c) {i : Nat} {a : Nat} {lv' : List (Nat × Value)} (hd : decode cc pc = .ok (.astore i, 2)) (hn : Nat.ble (i + 1) nL = true) (hl : (i, Value.ref a) :: lv.filter (fun q => !(q.1 == i) && !(q.1 + 1 == i && q.2.category == 2)) = lv') (k : RUN g nL p l e R s m args below meth c A cells slots Q ws (pc + 2) lv' st) : RUN g nL p l e R s m args below meth c A cells slots Q ws pc lv (.ref a :: st) :=
  fun ls H locs h1 h2 h3 h4 => lv_astore C.1 C.2.1 hd h1 (Nat.le_of_ble_eq_true hn) hl (fun ls h1 => k ls H locs h1 h2 h3 h4)
theorem r_iinc (C : CX g own cc nL ret A p s m args meth c) {i : Nat} {n x : Int} {lv' : List (Nat × Value)} (hd : decode cc pc = .ok (.iinc i n, 3)) (j : Nat) (hj : lv[j]? = some (i, vi x)) (hn : Nat.ble (i + 1) nL = true) (hl : (i, vi (x + n)) :: lv.filter (fun q => !(q.1 == i) && !(q.1 + 1 == i && q.2.category == 2)) = lv') (k : RUN g nL p l e R s m args below meth c A cells slots Q ws (pc + 3) lv' st) : RUN g nL p l e R s m args below meth c A cells slots Q ws pc lv st :=
  fun ls H locs h1 h2 h3 h4 => lv_iinc C.1 C.2.1 hd h1 hj (zI_add x n) (Nat.le_of_ble_eq_true hn) hl (fun ls h1 => k ls H locs h1 h2 h3 h4)
theorem r_iadd (C : CX g own cc nL ret A p s m args meth c) {x y : Int} (hd : decode cc pc = .ok (.iadd, 1)) (k : RUN g nL p l e R s m args below meth c A cells slots Q ws (pc + 1) lv (vi (x + y) :: st)) : RUN g nL p l e R s m args below meth c A cells slots Q ws pc lv (vi y :: vi x :: st) :=
  fun ls H locs h1 h2 h3 h4 => by
  have k1 := k ls H locs h1 h2 h3 h4
  rw [show vi (x + y) = .int (zI x + zI y) from congrArg Value.int (zI_add x y).symm] at k1
  exact lv_iadd C.1 C.2.1 hd k1
theorem r_isub (C : CX g own cc nL ret A p s m args meth c) {x y : Int} (hd : decode cc pc = .ok (.isub, 1)) (k : RUN g nL p l e R s m args below meth c A cells slots Q ws (pc + 1) lv (vi (x - y) :: st)) : RUN g nL p l e R s m args below meth c A cells slots Q ws pc lv (vi y :: vi x :: st) :=
  fun ls H locs h1 h2 h3 h4 => by
  have k1 := k ls H locs h1 h2 h3 h4
  rw [show vi (x - y) = .int (zI x - zI y) from congrArg Value.int (zI_sub x y).symm] at k1
  exact lv_isub C.1 C.2.1 hd k1
theorem r_imul (C : CX g own cc nL ret A p s m args meth c) {x y : Int} (hd : decode cc pc = .ok (.imul, 1)) (k : RUN g nL p l e R s m args below meth c A cells slots Q ws (pc + 1) lv (vi (x * y) :: st)) : RUN g nL p l e R s m args below meth c A cells slots Q ws pc lv (vi y :: vi x :: st) :=
  fun ls H locs h1 h2 h3 h4 => by
  have k1 := k ls H locs h1 h2 h3 h4
  rw [show vi (x * y) = .int (zI x * zI y) from congrArg Value.int (zI_mul x y).symm] at k1
  exact lv_imul C.1 C.2.1 hd k1
theorem r_ineg (C : CX g own cc nL ret A p s m args meth c) {x : Int} (hd : decode cc pc = .ok (.ineg, 1)) (k : RUN g nL p l e R s m args below meth c A cells slots Q ws (pc + 1) lv (vi (-x) :: st)) : RUN g nL p l e R s m args below meth c A cells slots Q ws pc lv (vi x :: st) :=
  fun ls H locs h1 h2 h3 h4 => by
  have k1 := k ls H locs h1 h2 h3 h4
  rw [show vi (-x) = .int (-zI x) from congrArg Value.int (zI_neg x).symm] at k1
  exact lv_ineg C.1 C.2.1 hd k1
theorem r_idiv (C : CX g own cc nL ret A p s m args meth c) {x y : Int} (hd : decode cc pc = .ok (.idiv, 1)) (h : 0 ≤ x ∧ x ≤ 2147483647 ∧ 0 < y ∧ y ≤ 2147483647) (k : RUN g nL p l e R s m args below meth c A cells slots Q ws (pc + 1) lv (vi (x / y) :: st)) : RUN g nL p l e R s m args below meth c A cells slots Q ws pc lv (vi y :: vi x :: st) :=
  fun ls H locs h1 h2 h3 h4 => by
  have k1 := k ls H locs h1 h2 h3 h4
  rw [show vi (x / y) = .int (zI x / zI y) from congrArg Value.int (zI_div h).symm] at k1
  exact lv_idiv C.1 C.2.1 hd (fun e => by have := (zI_eq (x := y) (y := 0) (by omega)).mp e; omega) k1
theorem r_irem (C : CX g own cc nL ret A p s m args meth c) {x y : Int} (hd : decode cc pc = .ok (.irem, 1)) (h : 0 ≤ x ∧ x ≤ 2147483647 ∧ 0 < y ∧ y ≤ 2147483647) (k : RUN g nL p l e R s m args below meth c A cells slots Q ws (pc + 1) lv (vi (x % y) :: st)) : RUN g nL p l e R s m args below meth c A cells slots Q ws pc lv (vi y :: vi x :: st) :=
  fun ls H locs h1 h2 h3 h4 => by
  have k1 := k ls H locs h1 h2 h3 h4
  rw [show vi (x % y) = .int (zI x - zI x / zI y * zI y) from congrArg Value.int (zI_rem h).symm] at k1
  exact lv_irem C.1 C.2.1 hd (fun e => by have := (zI_eq (x := y) (y := 0) (by omega)).mp e; omega) k1
theorem r_iand (C : CX g own cc nL ret A p s m args meth c) {x y z : Int} (hd : decode cc pc = .ok (.iand, 1)) (h : (zI x &&& zI y) = zI z) (k : RUN g nL p l e R s m args below meth c A cells slots Q ws (pc + 1) lv (vi z :: st)) : RUN g nL p l e R s m args below meth c A cells slots Q ws pc lv (vi y :: vi x :: st) :=
  fun ls H locs h1 h2 h3 h4 => by
  have k1 := k ls H locs h1 h2 h3 h4
  rw [show vi z = .int (zI x &&& zI y) from congrArg Value.int h.symm] at k1
  exact lv_iand C.1 C.2.1 hd k1
theorem r_ior (C : CX g own cc nL ret A p s m args meth c) {x y z : Int} (hd : decode cc pc = .ok (.ior, 1)) (h : (zI x ||| zI y) = zI z) (k : RUN g nL p l e R s m args below meth c A cells slots Q ws (pc + 1) lv (vi z :: st)) : RUN g nL p l e R s m args below meth c A cells slots Q ws pc lv (vi y :: vi x :: st) :=
  fun ls H locs h1 h2 h3 h4 => by
  have k1 := k ls H locs h1 h2 h3 h4
  rw [show vi z = .int (zI x ||| zI y) from congrArg Value.int h.symm] at k1
  exact lv_ior C.1 C.2.1 hd k1
theorem r_ixor (C : CX g own cc nL ret A p s m args meth c) {x y z : Int} (hd : decode cc pc = .ok (.ixor, 1)) (h : (zI x ^^^ zI y) = zI z) (k : RUN g nL p l e R s m args below meth c A cells slots Q ws (pc + 1) lv (vi z :: st)) : RUN g nL p l e R s m args below meth c A cells slots Q ws pc lv (vi y :: vi x :: st) :=
  fun ls H locs h1 h2 h3 h4 => by
  have k1 := k ls H locs h1 h2 h3 h4
  rw [show vi z = .int (zI x ^^^ zI y) from congrArg Value.int h.symm] at k1
  exact lv_ixor C.1 C.2.1 hd k1
theorem r_ishl (C : CX g own cc nL ret A p s m args meth c) {x y z : Int} (hd : decode cc pc = .ok (.ishl, 1)) (h : (zI x <<< (zI y &&& 31)) = zI z) (k : RUN g nL p l e R s m args below meth c A cells slots Q ws (pc + 1) lv (vi z :: st)) : RUN g nL p l e R s m args below meth c A cells slots Q ws pc lv (vi y :: vi x :: st) :=
  fun ls H locs h1 h2 h3 h4 => by
  have k1 := k ls H locs h1 h2 h3 h4
  rw [show vi z = .int (zI x <<< (zI y &&& 31)) from congrArg Value.int h.symm] at k1
  exact lv_ishl C.1 C.2.1 hd k1
theorem r_ishr (C : CX g own cc nL ret A p s m args meth c) {x y z : Int} (hd : decode cc pc = .ok (.ishr, 1)) (h : (zI x >>> (zI y &&& 31)) = zI z) (k : RUN g nL p l e R s m args below meth c A cells slots Q ws (pc + 1) lv (vi z :: st)) : RUN g nL p l e R s m args below meth c A cells slots Q ws pc lv (vi y :: vi x :: st) :=
  fun ls H locs h1 h2 h3 h4 => by
  have k1 := k ls H locs h1 h2 h3 h4
  rw [show vi z = .int (zI x >>> (zI y &&& 31)) from congrArg Value.int h.symm] at k1
  exact lv_ishr C.1 C.2.1 hd k1
theorem r_i2c (C : CX g own cc nL ret A p s m args meth c) {x : Int} (hd : decode cc pc = .ok (.i2c, 1)) (h : ((zI x).toUInt32 % 65536).toInt32 = zI x) (k : RUN g nL p l e R s m args below meth c A cells slots Q ws (pc + 1) lv (vi x :: st)) : RUN g nL p l e R s m args below meth c A cells slots Q ws pc lv (vi x :: st) :=
  fun ls H locs h1 h2 h3 h4 => lv_i2c C.1 C.2.1 hd h (k ls H locs h1 h2 h3 h4)
theorem r_dup (C : CX g own cc nL ret A p s m args meth c) {v : Value} (hd : decode cc pc = .ok (.dup, 1)) (hv : v.category = 1) (k : RUN g nL p l e R s m args below meth c A cells slots Q ws (pc + 1) lv (v :: v :: st)) : RUN g nL p l e R s m args below meth c A cells slots Q ws pc lv (v :: st) :=
  fun ls H locs h1 h2 h3 h4 => lv_dup C.1 C.2.1 hd hv (k ls H locs h1 h2 h3 h4)
theorem r_pop (C : CX g own cc nL ret A p s m args meth c) {v : Value} (hd : decode cc pc = .ok (.pop, 1)) (hv : v.category = 1) (k : RUN g nL p l e R s m args below meth c A cells slots Q ws (pc + 1) lv st) : RUN g nL p l e R s m args below meth c A cells slots Q ws pc lv (v :: st) :=
  fun ls H locs h1 h2 h3 h4 => lv_pop C.1 C.2.1 hd hv (k ls H locs h1 h2 h3 h4)
theorem r_dup_x1 (C : CX g own cc nL ret A p s m args meth c) {v w : Value} (hd : decode cc pc = .ok (.dup_x1, 1)) (hv : v.category = 1) (hw : w.category = 1) (k : RUN g nL p l e R s m args below meth c A cells slots Q ws (pc + 1) lv (v :: w :: v :: st)) : RUN g nL p l e R s m args below meth c A cells slots Q ws pc lv (v :: w :: st) :=
  fun ls H locs h1 h2 h3 h4 => lv_dup_x1 C.1 C.2.1 hd hv hw (k ls H locs h1 h2 h3 h4)
theorem r_dup2 (C : CX g own cc nL ret A p s m args meth c) {v w : Value} (hd : decode cc pc = .ok (.dup2, 1)) (hv : v.category = 1) (hw : w.category = 1) (k : RUN g nL p l e R s m args below meth c A cells slots Q ws (pc + 1) lv (v :: w :: v :: w :: st)) : RUN g nL p l e R s m args below meth c A cells slots Q ws pc lv (v :: w :: st) :=
  fun ls H locs h1 h2 h3 h4 => lv_dup2_11 C.1 C.2.1 hd hv hw (k ls H locs h1 h2 h3 h4)
theorem r_goto (C : CX g own cc nL ret A p s m args meth c) {off : Int} (tgt : Nat) (hd : decode cc pc = .ok (.goto off, 3)) (ht : (pc : Int) + off = (tgt : Int)) (k : RUN g nL p l e R s m args below meth c A cells slots Q ws tgt lv st) : RUN g nL p l e R s m args below meth c A cells slots Q ws pc lv st :=
  fun ls H locs h1 h2 h3 h4 => lv_goto C.1 C.2.1 hd ht (k ls H locs h1 h2 h3 h4)
theorem r_icmp_eq (C : CX g own cc nL ret A p s m args meth c) {off : Int} {x y : Int} (tgt : Nat) (hd : decode cc pc = .ok (.if_icmp .eq off, 3)) (ht : (pc : Int) + off = (tgt : Int)) (h : -2147483648 ≤ x ∧ x ≤ 2147483647 ∧ -2147483648 ≤ y ∧ y ≤ 2147483647) (kt : x = y → RUN g nL p l e R s m args below meth c A cells slots Q ws tgt lv st) (kf : ¬ (x = y) → RUN g nL p l e R s m args below meth c A cells slots Q ws (pc + 3) lv st) : RUN g nL p l e R s m args below meth c A cells slots Q ws pc lv (vi y :: vi x :: st) :=
  fun ls H locs h1 h2 h3 h4 => lv_icmp_eq C.1 C.2.1 hd ht (fun q => kt ((zI_eq h).mp q) ls H locs h1 h2 h3 h4) (fun q => kf (fun z => q ((zI_eq h).mpr z)) ls H locs h1 h2 h3 h4)
theorem r_if_eq (C : CX g own cc nL ret A p s m args meth c) {off : Int} {x : Int} (tgt : Nat) (hd : decode cc pc = .ok (.ifCond .eq off, 3)) (ht : (pc : Int) + off = (tgt : Int)) (h : -2147483648 ≤ x ∧ x ≤ 2147483647) (kt : x = 0 → RUN g nL p l e R s m args below meth c A cells slots Q ws tgt lv st) (kf : ¬ (x = 0) → RUN g nL p l e R s m args below meth c A cells slots Q ws (pc + 3) lv st) : RUN g nL p l e R s m args below meth c A cells slots Q ws pc lv (vi x :: st) :=
  fun ls H locs h1 h2 h3 h4 => lv_if_eq C.1 C.2.1 hd ht (fun q => kt ((zI_eq ⟨h.1, h.2, by decide, by decide⟩).mp q) ls H locs h1 h2 h3 h4) (fun q => kf (fun z => q ((zI_eq ⟨h.1, h.2, by decide, by decide⟩).mpr z)) ls H locs h1 h2 h3 h4)
theorem r_icmp_ne (C : CX g own cc nL ret A p s m args meth c) {off : Int} {x y : Int} (tgt : Nat) (hd : decode cc pc = .ok (.if_icmp .ne off, 3)) (ht : (pc : Int) + off = (tgt : Int)) (h : -2147483648 ≤ x ∧ x ≤ 2147483647 ∧ -2147483648 ≤ y ∧ y ≤ 2147483647) (kt : ¬ x = y → RUN g nL p l e R s m args below meth c A cells slots Q ws tgt lv st) (kf : x = y → RUN g nL p l e R s m args below meth c A cells slots Q ws (pc + 3) lv st) : RUN g nL p l e R s m args below meth c A cells slots Q ws pc lv (vi y :: vi x :: st) :=
  fun ls H locs h1 h2 h3 h4 => lv_icmp_ne C.1 C.2.1 hd ht (fun q => kt (fun z => q ((zI_eq h).mpr z)) ls H locs h1 h2 h3 h4) (fun q => kf ((zI_eq h).mp q) ls H locs h1 h2 h3 h4)
theorem r_if_ne (C : CX g own cc nL ret A p s m args meth c) {off : Int} {x : Int} (tgt : Nat) (hd : decode cc pc = .ok (.ifCond .ne off, 3)) (ht : (pc : Int) + off = (tgt : Int)) (h : -2147483648 ≤ x ∧ x ≤ 2147483647) (kt : ¬ x = 0 → RUN g nL p l e R s m args below meth c A cells slots Q ws tgt lv st) (kf : x = 0 → RUN g nL p l e R s m args below meth c A cells slots Q ws (pc + 3) lv st) : RUN g nL p l e R s m args below meth c A cells slots Q ws pc lv (vi x :: st) :=
  fun ls H locs h1 h2 h3 h4 => lv_if_ne C.1 C.2.1 hd ht (fun q => kt (fun z => q ((zI_eq ⟨h.1, h.2, by decide, by decide⟩).mpr z)) ls H locs h1 h2 h3 h4) (fun q => kf ((zI_eq ⟨h.1, h.2, by decide, by decide⟩).mp q) ls H locs h1 h2 h3 h4)
theorem r_icmp_lt (C : CX g own cc nL ret A p s m args meth c) {off : Int} {x y : Int} (tgt : Nat) (hd : decode cc pc = .ok (.if_icmp .lt off, 3)) (ht : (pc : Int) + off = (tgt : Int)) (h : -2147483648 ≤ x ∧ x ≤ 2147483647 ∧ -2147483648 ≤ y ∧ y ≤ 2147483647) (kt : x < y → RUN g nL p l e R s m args below meth c A cells slots Q ws tgt lv st) (kf : ¬ (x < y) → RUN g nL p l e R s m args below meth c A cells slots Q ws (pc + 3) lv st) : RUN g nL p l e R s m args below meth c A cells slots Q ws pc lv (vi y :: vi x :: st) :=
  fun ls H locs h1 h2 h3 h4 => lv_icmp_lt C.1 C.2.1 hd ht (fun q => kt ((zI_lt h).mp q) ls H locs h1 h2 h3 h4) (fun q => kf (fun z => q ((zI_lt h).mpr z)) ls H locs h1 h2 h3 h4)
theorem r_if_lt (C : CX g own cc nL ret A p s m args meth c) {off : Int} {x : Int} (tgt : Nat) (hd : decode cc pc = .ok (.ifCond .lt off, 3)) (ht : (pc : Int) + off = (tgt : Int)) (h : -2147483648 ≤ x ∧ x ≤ 2147483647) (kt : x < 0 → RUN g nL p l e R s m args below meth c A cells slots Q ws tgt lv st) (kf : ¬ (x < 0) → RUN g nL p l e R s m args below meth c A cells slots Q ws (pc + 3) lv st) : RUN g nL p l e R s m args below meth c A cells slots Q ws pc lv (vi x :: st) :=
  fun ls H locs h1 h2 h3 h4 => lv_if_lt C.1 C.2.1 hd ht (fun q => kt ((zI_lt ⟨h.1, h.2, by decide, by decide⟩).mp q) ls H locs h1 h2 h3 h4) (fun q => kf (fun z => q ((zI_lt ⟨h.1, h.2, by decide, by decide⟩).mpr z)) ls H locs h1 h2 h3 h4)
theorem r_icmp_ge (C : CX g own cc nL ret A p s m args meth c) {off : Int} {x y : Int} (tgt : Nat) (hd : decode cc pc = .ok (.if_icmp .ge off, 3)) (ht : (pc : Int) + off = (tgt : Int)) (h : -2147483648 ≤ x ∧ x ≤ 2147483647 ∧ -2147483648 ≤ y ∧ y ≤ 2147483647) (kt : y ≤ x → RUN g nL p l e R s m args below meth c A cells slots Q ws tgt lv st) (kf : ¬ (y ≤ x) → RUN g nL p l e R s m args below meth c A cells slots Q ws (pc + 3) lv st) : RUN g nL p l e R s m args below meth c A cells slots Q ws pc lv (vi y :: vi x :: st) :=
  fun ls H locs h1 h2 h3 h4 => lv_icmp_ge C.1 C.2.1 hd ht (fun q => kt ((zI_le ⟨h.2.2.1, h.2.2.2, h.1, h.2.1⟩).mp q) ls H locs h1 h2 h3 h4) (fun q => kf (fun z => q ((zI_le ⟨h.2.2.1, h.2.2.2, h.1, h.2.1⟩).mpr z)) ls H locs h1 h2 h3 h4)
theorem r_if_ge (C : CX g own cc nL ret A p s m args meth c) {off : Int} {x : Int} (tgt : Nat) (hd : decode cc pc = .ok (.ifCond .ge off, 3)) (ht : (pc : Int) + off = (tgt : Int)) (h : -2147483648 ≤ x ∧ x ≤ 2147483647) (kt : 0 ≤ x → RUN g nL p l e R s m args below meth c A cells slots Q ws tgt lv st) (kf : ¬ (0 ≤ x) → RUN g nL p l e R s m args below meth c A cells slots Q ws (pc + 3) lv st) : RUN g nL p l e R s m args below meth c A cells slots Q ws pc lv (vi x :: st) :=
  fun ls H locs h1 h2 h3 h4 => lv_if_ge C.1 C.2.1 hd ht (fun q => kt ((zI_le ⟨by decide, by decide, h.1, h.2⟩).mp q) ls H locs h1 h2 h3 h4) (fun q => kf (fun z => q ((zI_le ⟨by decide, by decide, h.1, h.2⟩).mpr z)) ls H locs h1 h2 h3 h4)
theorem r_icmp_gt (C : CX g own cc nL ret A p s m args meth c) {off : Int} {x y : Int} (tgt : Nat) (hd : decode cc pc = .ok (.if_icmp .gt off, 3)) (ht : (pc : Int) + off = (tgt : Int)) (h : -2147483648 ≤ x ∧ x ≤ 2147483647 ∧ -2147483648 ≤ y ∧ y ≤ 2147483647) (kt : y < x → RUN g nL p l e R s m args below meth c A cells slots Q ws tgt lv st) (kf : ¬ (y < x) → RUN g nL p l e R s m args below meth c A cells slots Q ws (pc + 3) lv st) : RUN g nL p l e R s m args below meth c A cells slots Q ws pc lv (vi y :: vi x :: st) :=
  fun ls H locs h1 h2 h3 h4 => lv_icmp_gt C.1 C.2.1 hd ht (fun q => kt ((zI_lt ⟨h.2.2.1, h.2.2.2, h.1, h.2.1⟩).mp q) ls H locs h1 h2 h3 h4) (fun q => kf (fun z => q ((zI_lt ⟨h.2.2.1, h.2.2.2, h.1, h.2.1⟩).mpr z)) ls H locs h1 h2 h3 h4)
theorem r_if_gt (C : CX g own cc nL ret A p s m args meth c) {off : Int} {x : Int} (tgt : Nat) (hd : decode cc pc = .ok (.ifCond .gt off, 3)) (ht : (pc : Int) + off = (tgt : Int)) (h : -2147483648 ≤ x ∧ x ≤ 2147483647) (kt : 0 < x → RUN g nL p l e R s m args below meth c A cells slots Q ws tgt lv st) (kf : ¬ (0 < x) → RUN g nL p l e R s m args below meth c A cells slots Q ws (pc + 3) lv st) : RUN g nL p l e R s m args below meth c A cells slots Q ws pc lv (vi x :: st) :=
  fun ls H locs h1 h2 h3 h4 => lv_if_gt C.1 C.2.1 hd ht (fun q => kt ((zI_lt ⟨by decide, by decide, h.1, h.2⟩).mp q) ls H locs h1 h2 h3 h4) (fun q => kf (fun z => q ((zI_lt ⟨by decide, by decide, h.1, h.2⟩).mpr z)) ls H locs h1 h2 h3 h4)
theorem r_icmp_le (C : CX g own cc nL ret A p s m args meth c) {off : Int} {x y : Int} (tgt : Nat) (hd : decode cc pc = .ok (.if_icmp .le off, 3)) (ht : (pc : Int) + off = (tgt : Int)) (h : -2147483648 ≤ x ∧ x ≤ 2147483647 ∧ -2147483648 ≤ y ∧ y ≤ 2147483647) (kt : x ≤ y → RUN g nL p l e R s m args below meth c A cells slots Q ws tgt lv st) (kf : ¬ (x ≤ y) → RUN g nL p l e R s m args below meth c A cells slots Q ws (pc + 3) lv st) : RUN g nL p l e R s m args below meth c A cells slots Q ws pc lv (vi y :: vi x :: st) :=
  fun ls H locs h1 h2 h3 h4 => lv_icmp_le C.1 C.2.1 hd ht (fun q => kt ((zI_le h).mp q) ls H locs h1 h2 h3 h4) (fun q => kf (fun z => q ((zI_le h).mpr z)) ls H locs h1 h2 h3 h4)
theorem r_if_le (C : CX g own cc nL ret A p s m args meth c) {off : Int} {x : Int} (tgt : Nat) (hd : decode cc pc = .ok (.ifCond .le off, 3)) (ht : (pc : Int) + off = (tgt : Int)) (h : -2147483648 ≤ x ∧ x ≤ 2147483647) (kt : x ≤ 0 → RUN g nL p l e R s m args below meth c A cells slots Q ws tgt lv st) (kf : ¬ (x ≤ 0) → RUN g nL p l e R s m args below meth c A cells slots Q ws (pc + 3) lv st) : RUN g nL p l e R s m args below meth c A cells slots Q ws pc lv (vi x :: st) :=
  fun ls H locs h1 h2 h3 h4 => lv_if_le C.1 C.2.1 hd ht (fun q => kt ((zI_le ⟨h.1, h.2, by decide, by decide⟩).mp q) ls H locs h1 h2 h3 h4) (fun q => kf (fun z => q ((zI_le ⟨h.1, h.2, by decide, by decide⟩).mpr z)) ls H locs h1 h2 h3 h4)
theorem r_iald (C : CX g own cc nL ret A p s m args meth c) {a n : Nat} {f : Int → Int} {i : Int} (hd : decode cc pc = .ok (.iaload, 1)) (q0 : Nat) (hq : ws[q0]? = some (a, aI g n f)) (hn : Nat.ble n 1000000 = true) (h : 0 ≤ i ∧ i < n) (k : RUN g nL p l e R s m args below meth c A cells slots Q ws (pc + 1) lv (vi (f i) :: st)) : RUN g nL p l e R s m args below meth c A cells slots Q ws pc lv (vi i :: .ref a :: st) :=
  fun ls H locs h1 h2 h3 h4 => by
  have k1 := k ls H locs h1 h2 h3 h4
  rw [show vi (f i) = .int (zR f (zI i).toNatClampNeg) from congrArg Value.int (zR_at hn h).symm] at k1
  exact va_iald C.1 C.2.1 C.2.2.2.2.2.1 h2 q0 1 hq rfl (zI_in hn h) hd k1
theorem r_cald (C : CX g own cc nL ret A p s m args meth c) {a n : Nat} {f : Int → Int} {i : Int} (hd : decode cc pc = .ok (.caload, 1)) (q0 : Nat) (hq : ws[q0]? = some (a, aC g n f)) (hn : Nat.ble n 1000000 = true) (h : 0 ≤ i ∧ i < n) (k : RUN g nL p l e R s m args below meth c A cells slots Q ws (pc + 1) lv (vi (f i) :: st)) : RUN g nL p l e R s m args below meth c A cells slots Q ws pc lv (vi i :: .ref a :: st) :=
  fun ls H locs h1 h2 h3 h4 => by
  have k1 := k ls H locs h1 h2 h3 h4
  rw [show vi (f i) = .int (zR f (zI i).toNatClampNeg) from congrArg Value.int (zR_at hn h).symm] at k1
  exact va_cald C.1 C.2.1 C.2.2.2.2.2.1 h2 q0 0 hq rfl (zI_in hn h) hd k1
theorem r_zald (C : CX g own cc nL ret A p s m args meth c) {a n : Nat} {f : Int → Int} {i : Int} (hd : decode cc pc = .ok (.baload, 1)) (q0 : Nat) (hq : ws[q0]? = some (a, aZ g n f)) (hn : Nat.ble n 1000000 = true) (h : 0 ≤ i ∧ i < n) (k : RUN g nL p l e R s m args below meth c A cells slots Q ws (pc + 1) lv (vi (f i) :: st)) : RUN g nL p l e R s m args below meth c A cells slots Q ws pc lv (vi i :: .ref a :: st) :=
  fun ls H locs h1 h2 h3 h4 => by
  have k1 := k ls H locs h1 h2 h3 h4
  rw [show vi (f i) = .int (zR f (zI i).toNatClampNeg) from congrArg Value.int (zR_at hn h).symm] at k1
  exact va_zald C.1 C.2.1 C.2.2.2.2.2.1 h2 q0 2 hq rfl (zI_in hn h) hd k1
theorem r_iast (C : CX g own cc nL ret A p s m args meth c) {a n : Nat} {f : Int → Int} {i v : Int} {ws' : va_W} (hd : decode cc pc = .ok (.iastore, 1)) (q0 : Nat) (hq : ws[q0]? = some (a, aI g n f)) (hn : Nat.ble n 1000000 = true) (h : 0 ≤ i ∧ i < n) (hw : ws.set q0 (a, aI g n (zU f i v)) = ws') (k : RUN g nL p l e R s m args below meth c A cells slots Q ws' (pc + 1) lv st) : RUN g nL p l e R s m args below meth c A cells slots Q ws pc lv (vi v :: vi i :: .ref a :: st) :=
  fun ls H locs h1 h2 h3 h4 => by
  subst hw
  refine va_iast C.1 C.2.1 C.2.2.2.2.2.1 h2 h3 h4 q0 1 hq rfl (zI_in hn h) hd (fun H1 locs1 h2 h3 h4 => ?_)
  rw [zR_up hn h] at h2 h3
  exact k ls H1 locs1 h1 h2 h3 h4
theorem r_cast (C : CX g own cc nL ret A p s m args meth c) {a n : Nat} {f : Int → Int} {i v : Int} {ws' : va_W} (hd : decode cc pc = .ok (.castore, 1)) (q0 : Nat) (hq : ws[q0]? = some (a, aC g n f)) (hn : Nat.ble n 1000000 = true) (h : 0 ≤ i ∧ i < n) (hv : vp_nar .char (zI v) = zI v) (hw : ws.set q0 (a, aC g n (zU f i v)) = ws') (k : RUN g nL p l e R s m args below meth c A cells slots Q ws' (pc + 1) lv st) : RUN g nL p l e R s m args below meth c A cells slots Q ws pc lv (vi v :: vi i :: .ref a :: st) :=
  fun ls H locs h1 h2 h3 h4 => by
  subst hw
  refine va_cast C.1 C.2.1 C.2.2.2.2.2.1 h2 h3 h4 q0 0 hq rfl (zI_in hn h) hd (fun H1 locs1 h2 h3 h4 => ?_)
  rw [hv, zR_up hn h] at h2 h3
  exact k ls H1 locs1 h1 h2 h3 h4
theorem r_zast (C : CX g own cc nL ret A p s m args meth c) {a n : Nat} {f : Int → Int} {i v : Int} {ws' : va_W} (hd : decode cc pc = .ok (.bastore, 1)) (q0 : Nat) (hq : ws[q0]? = some (a, aZ g n f)) (hn : Nat.ble n 1000000 = true) (h : 0 ≤ i ∧ i < n) (hv : vp_nar .boolean (zI v) = zI v) (hw : ws.set q0 (a, aZ g n (zU f i v)) = ws') (k : RUN g nL p l e R s m args below meth c A cells slots Q ws' (pc + 1) lv st) : RUN g nL p l e R s m args below meth c A cells slots Q ws pc lv (vi v :: vi i :: .ref a :: st) :=
  fun ls H locs h1 h2 h3 h4 => by
  subst hw
  refine va_zast C.1 C.2.1 C.2.2.2.2.2.1 h2 h3 h4 q0 2 hq rfl (zI_in hn h) hd (fun H1 locs1 h2 h3 h4 => ?_)
  rw [hv, zR_up hn h] at h2 h3
  exact k ls H1 locs1 h1 h2 h3 h4
theorem r_ilen (C : CX g own cc nL ret A p s m args meth c) {a n : Nat} {f : Int → Int} (hd : decode cc pc = .ok (.arraylength, 1)) (q0 : Nat) (hq : ws[q0]? = some (a, aI g n f)) (k : RUN g nL p l e R s m args below meth c A cells slots Q ws (pc + 1) lv (vi (n : Int) :: st)) : RUN g nL p l e R s m args below meth c A cells slots Q ws pc lv (.ref a :: st) :=
  fun ls H locs h1 h2 h3 h4 => va_alen C.1 C.2.1 C.2.2.2.2.2.1 h2 q0 1 (ty := .int) hq rfl (zI_nat n) hd (k ls H locs h1 h2 h3 h4)
theorem r_clen (C : CX g own cc nL ret A p s m args meth c) {a n : Nat} {f : Int → Int} (hd : decode cc pc = .ok (.arraylength, 1)) (q0 : Nat) (hq : ws[q0]? = some (a, aC g n f)) (k : RUN g nL p l e R s m args below meth c A cells slots Q ws (pc + 1) lv (vi (n : Int) :: st)) : RUN g nL p l e R s m args below meth c A cells slots Q ws pc lv (.ref a :: st) :=
  fun ls H locs h1 h2 h3 h4 => va_alen C.1 C.2.1 C.2.2.2.2.2.1 h2 q0 0 (ty := .char) hq rfl (zI_nat n) hd (k ls H locs h1 h2 h3 h4)
theorem r_zlen (C : CX g own cc nL ret A p s m args meth c) {a n : Nat} {f : Int → Int} (hd : decode cc pc = .ok (.arraylength, 1)) (q0 : Nat) (hq : ws[q0]? = some (a, aZ g n f)) (k : RUN g nL p l e R s m args below meth c A cells slots Q ws (pc + 1) lv (vi (n : Int) :: st)) : RUN g nL p l e R s m args below meth c A cells slots Q ws pc lv (.ref a :: st) :=
  fun ls H locs h1 h2 h3 h4 => va_alen C.1 C.2.1 C.2.2.2.2.2.1 h2 q0 2 (ty := .boolean) hq rfl (zI_nat n) hd (k ls H locs h1 h2 h3 h4)
theorem r_aald (C : CX g own cc nL ret A p s m args meth c) {a n b : Nat} {f : Nat → Option Nat} {i : Int} (hd : decode cc pc = .ok (.aaload, 1)) (q0 : Nat) (hq : ws[q0]? = some (a, aQ g n f)) (hn : Nat.ble n 1000000 = true) (h : 0 ≤ i ∧ i < n) (hf : f i.toNat = some b) (k : RUN g nL p l e R s m args below meth c A cells slots Q ws (pc + 1) lv (.ref b :: st)) : RUN g nL p l e R s m args below meth c A cells slots Q ws pc lv (vi i :: .ref a :: st) :=
  fun ls H locs h1 h2 h3 h4 => by
  have hn2 := Nat.le_of_ble_eq_true hn
  have k1 := k ls H locs h1 h2 h3 h4
  rw [show Value.ref b = va_rf (f (zI i).toNatClampNeg) by rw [zI_cl (by omega), hf]; rfl] at k1
  exact va_aldq C.1 C.2.1 C.2.2.2.2.2.1 h2 q0 3 hq rfl (zI_in hn h) hd k1
theorem r_get (C : CX g own cc nL ret A p s m args meth c) {C' ref : String} {T : u_T} {N ci index a : Nat} {fs : List Value} {v : Value} (hin : ∀ w ∈ u_ws C' T N, w ∈ wsL_law) (hc : vwCl[ci]? = some (C', T, N)) (i : Nat) (hi : i < N) (hl : Cond.fieldLink own index ref (T i).2.1 (T i).2.2.1 ∈ wsL_law) (hr : (T i).1 = ref) (hd : decode cc pc = .ok (.getfield index, 3)) (q0 : Nat) (hq : ws[q0]? = some (a, oB ci fs)) (hv : fs[i]? = some v) (k : RUN g nL p l e R s m args below meth c A cells slots Q ws (pc + 3) lv (v :: st)) : RUN g nL p l e R s m args below meth c A cells slots Q ws pc lv (.ref a :: st) :=
  fun ls H locs h1 h2 h3 h4 => va_get C.1 C.2.1 C.2.2.2.2.1 hin C.2.2.2.1 C.2.2.2.2.2.1 h2 q0 hq hc i hi (C.2.2.2.2.1 _ hl) (fun x hx => hr ▸ hx) hv hd (k ls H locs h1 h2 h3 h4)
theorem r_getN (C : CX g own cc nL ret A p s m args meth c) {C' ref host : String} {T : u_T} {N ci index a : Nat} {fs : List Value} {v : Value} (hin : ∀ w ∈ u_ws C' T N, w ∈ wsL_law) (hc : vwCl[ci]? = some (C', T, N)) (i : Nat) (hi : i < N) (hl : (own, index, ref, (T i).2.1, (T i).2.2.1, host) ∈ nwF) (hr : (T i).1 = ref) (hd : decode cc pc = .ok (.getfield index, 3)) (q0 : Nat) (hq : ws[q0]? = some (a, oB ci fs)) (hv : fs[i]? = some v) (k : RUN g nL p l e R s m args below meth c A cells slots Q ws (pc + 3) lv (v :: st)) : RUN g nL p l e R s m args below meth c A cells slots Q ws pc lv (.ref a :: st) :=
  fun ls H locs h1 h2 h3 h4 => va_getN C.1 C.2.1 C.2.2.2.2.1 hin C.2.2.2.1 C.2.2.2.2.2.1 h2 q0 hq hc i hi (va_Nw.use rfl (C.2.2.2.2.2.2.1.1 _ hl)) (fun x hx => hr ▸ hx) hv hd (k ls H locs h1 h2 h3 h4)
theorem r_put (C : CX g own cc nL ret A p s m args meth c) {C' ref host : String} {T : u_T} {N ci index a : Nat} {fs : List Value} {v : Value} {ty : FieldType} {ws' : va_W} (hin : ∀ w ∈ u_ws C' T N, w ∈ wsL_law) (ty0 : Nat → FieldType) (hty : ∀ k, k < N → parseFieldDescriptor (T k).2.2.1 = some (ty0 k)) (hnm : ∀ a, a < N → ∀ b, b < N → a ≠ b → (T a).2.1 ≠ (T b).2.1) (hc : vwCl[ci]? = some (C', T, N)) (i : Nat) (hi : i < N) (hl : Cond.fieldLink own index ref (T i).2.1 (T i).2.2.1 ∈ wsL_law) (hr : (T i).1 = ref) (hf : (T i).2.2.2 = false) (ht : ty0 i = ty) (hd : decode cc pc = .ok (.putfield index, 3)) (q0 : Nat) (hq : ws[q0]? = some (a, oB ci fs)) (hlen : i < fs.length) (hna : narrow ty v = v) (hfi : fits ty v = true) (hw : ws.set q0 (a, oB ci (fs.set i v)) = ws') (k : RUN g nL p l e R s m args below meth c A cells slots Q ws' (pc + 3) lv st) : RUN g nL p l e R s m args below meth c A cells slots Q ws pc lv (v :: .ref a :: st) :=
  fun ls H locs h1 h2 h3 h4 => by
  subst hw
  exact va_put C.1 C.2.1 C.2.2.2.2.1 hin ty0 hty hnm C.2.2.2.1 C.2.2.2.2.2.1 h2 h3 h4 q0 hq hc i hi (C.2.2.2.2.1 _ hl) (fun x hx => hr ▸ hx) hf (by rw [hty i hi, ht]) hna hfi hlen hd (fun H1 locs1 h2 h3 h4 => k ls H1 locs1 h1 h2 h3 h4)
theorem r_putN (C : CX g own cc nL ret A p s m args meth c) {C' ref host : String} {T : u_T} {N ci index a : Nat} {fs : List Value} {v : Value} {ty : FieldType} {ws' : va_W} (hin : ∀ w ∈ u_ws C' T N, w ∈ wsL_law) (ty0 : Nat → FieldType) (hty : ∀ k, k < N → parseFieldDescriptor (T k).2.2.1 = some (ty0 k)) (hnm : ∀ a, a < N → ∀ b, b < N → a ≠ b → (T a).2.1 ≠ (T b).2.1) (hc : vwCl[ci]? = some (C', T, N)) (i : Nat) (hi : i < N) (hl : (own, index, ref, (T i).2.1, (T i).2.2.1, host) ∈ nwF) (hr : (T i).1 = ref) (hf : (T i).2.2.2 = false) (ht : ty0 i = ty) (hd : decode cc pc = .ok (.putfield index, 3)) (q0 : Nat) (hq : ws[q0]? = some (a, oB ci fs)) (hlen : i < fs.length) (hna : narrow ty v = v) (hfi : fits ty v = true) (hw : ws.set q0 (a, oB ci (fs.set i v)) = ws') (k : RUN g nL p l e R s m args below meth c A cells slots Q ws' (pc + 3) lv st) : RUN g nL p l e R s m args below meth c A cells slots Q ws pc lv (v :: .ref a :: st) :=
  fun ls H locs h1 h2 h3 h4 => by
  subst hw
  exact va_putN C.1 C.2.1 C.2.2.2.2.1 hin ty0 hty hnm C.2.2.2.1 C.2.2.2.2.2.1 h2 h3 h4 q0 hq hc i hi (va_Nw.use rfl (C.2.2.2.2.2.2.1.1 _ hl)) (fun x hx => hr ▸ hx) hf (by rw [hty i hi, ht]) hna hfi hlen hd (fun H1 locs1 h2 h3 h4 => k ls H1 locs1 h1 h2 h3 h4)
theorem r_putF (C : CX g own cc nL ret A p s m args meth c) {C' ref host : String} {T : u_T} {N ci index a : Nat} {fs : List Value} {v : Value} {ty : FieldType} {ws' : va_W} (hin : ∀ w ∈ u_ws C' T N, w ∈ wsL_law) (ty0 : Nat → FieldType) (hty : ∀ k, k < N → parseFieldDescriptor (T k).2.2.1 = some (ty0 k)) (hnm : ∀ a, a < N → ∀ b, b < N → a ≠ b → (T a).2.1 ≠ (T b).2.1) (hc : vwCl[ci]? = some (C', T, N)) (i : Nat) (hi : i < N) (hl : Cond.fieldLink own index ref (T i).2.1 (T i).2.2.1 ∈ wsL_law) (hr : (T i).1 = ref) (hf : (T i).2.2.2 = true) (hin2 : meth.name = "<init>") (hdc : (T i).1 = own) (ht : ty0 i = ty) (hd : decode cc pc = .ok (.putfield index, 3)) (q0 : Nat) (hq : ws[q0]? = some (a, oB ci fs)) (hlen : i < fs.length) (hna : narrow ty v = v) (hfi : fits ty v = true) (hw : ws.set q0 (a, oB ci (fs.set i v)) = ws') (k : RUN g nL p l e R s m args below meth c A cells slots Q ws' (pc + 3) lv st) : RUN g nL p l e R s m args below meth c A cells slots Q ws pc lv (v :: .ref a :: st) :=
  fun ls H locs h1 h2 h3 h4 => by
  subst hw
  exact va_putF C.1 C.2.1 C.2.2.2.2.1 hin ty0 hty hnm C.2.2.2.1 C.2.2.2.2.2.1 h2 h3 h4 q0 hq hc i hi (C.2.2.2.2.1 _ hl) (fun x hx => hr ▸ hx) hf hin2 hdc (by rw [hty i hi, ht]) hna hfi hlen hd (fun H1 locs1 h2 h3 h4 => k ls H1 locs1 h1 h2 h3 h4)
theorem r_top {x : Int} (k : ∀ y : Int, y = x → RUN g nL p l e R s m args below meth c A cells slots Q ws pc lv (vi y :: st)) : RUN g nL p l e R s m args below meth c A cells slots Q ws pc lv (vi x :: st) := k x rfl
theorem r_eq {x y : Int} (h : x = y) (k : RUN g nL p l e R s m args below meth c A cells slots Q ws pc lv (vi y :: st)) : RUN g nL p l e R s m args below meth c A cells slots Q ws pc lv (vi x :: st) := h ▸ k
theorem r_lv {lv' : List (Nat × Value)} (ks : List Nat) (h : lv_pick lv ks = lv') (k : RUN g nL p l e R s m args below meth c A cells slots Q ws pc lv' st) : RUN g nL p l e R s m args below meth c A cells slots Q ws pc lv st := fun ls H locs h1 h2 h3 h4 => k ls H locs (lv_sub h1 ks h) h2 h3 h4
theorem r_ws {ws' : va_W} (h : ws = ws') (k : RUN g nL p l e R s m args below meth c A cells slots Q ws' pc lv st) : RUN g nL p l e R s m args below meth c A cells slots Q ws pc lv st := h ▸ k
theorem r_st {st' : List Value} (h : st = st') (k : RUN g nL p l e R s m args below meth c A cells slots Q ws pc lv st') : RUN g nL p l e R s m args below meth c A cells slots Q ws pc lv st := h ▸ k
theorem r_mmax (C : CX g own cc nL ret A p s m args meth c) {x y : Int} {index : Nat} (hl : Cond.methodLink own index Lib.Math.max.name ∈ wsL_law) (hd : decode cc pc = .ok (.invokestatic index, 3)) (hR : Nat.ble 1 R.frames = true ∧ Nat.ble ((st.map fun v => v.category).sum + 13) R.locals = true ∧ Nat.ble cells R.cells = true ∧ Nat.ble slots R.slots = true) (h : -2147483648 ≤ x ∧ x ≤ 2147483647 ∧ -2147483648 ≤ y ∧ y ≤ 2147483647) (k : RUN g nL p l e R s m args below meth c A cells slots Q ws (pc + 3) lv (vi (max x y) :: st)) : RUN g nL p l e R s m args below meth c A cells slots Q ws pc lv (vi y :: vi x :: st) :=
  fun ls H locs h1 h2 h3 h4 => by
  have k1 := k ls H locs h1 h2 h3 h4
  have he : zI (max x y) = (if zI x < zI y then zI y else zI x) := by
    rw [show max x y = if x < y then y else x by omega]
    by_cases q : x < y
    · rw [if_pos q, if_pos ((zI_lt h).mpr q)]
    · rw [if_neg q, if_neg (fun z => q ((zI_lt h).mp z))]
  rw [show vi (max x y) = .int (if zI x < zI y then zI y else zI x) from congrArg Value.int he] at k1
  exact va_mmax C.1 C.2.1 (by rw [C.2.2.1]; exact h1.1.symm) C.2.2.2.1 (C.2.2.2.2.1 _ hl) (C.2.2.2.2.1 _ qs_max) (C.2.2.2.2.1 _ qs_Math) (C.2.2.2.2.1 _ qc_max) (Nat.le_of_ble_eq_true hR.1) (Nat.le_of_ble_eq_true hR.2.1) (Nat.le_of_ble_eq_true hR.2.2.1) (Nat.le_of_ble_eq_true hR.2.2.2) hd k1
theorem r_mmin (C : CX g own cc nL ret A p s m args meth c) {x y : Int} {index : Nat} (hl : Cond.methodLink own index Lib.Math.min.name ∈ wsL_law) (hd : decode cc pc = .ok (.invokestatic index, 3)) (hR : Nat.ble 1 R.frames = true ∧ Nat.ble ((st.map fun v => v.category).sum + 13) R.locals = true ∧ Nat.ble cells R.cells = true ∧ Nat.ble slots R.slots = true) (h : -2147483648 ≤ x ∧ x ≤ 2147483647 ∧ -2147483648 ≤ y ∧ y ≤ 2147483647) (k : RUN g nL p l e R s m args below meth c A cells slots Q ws (pc + 3) lv (vi (min x y) :: st)) : RUN g nL p l e R s m args below meth c A cells slots Q ws pc lv (vi y :: vi x :: st) :=
  fun ls H locs h1 h2 h3 h4 => by
  have k1 := k ls H locs h1 h2 h3 h4
  have he : zI (min x y) = (if zI y < zI x then zI y else zI x) := by
    rw [show min x y = if y < x then y else x by omega]
    by_cases q : y < x
    · rw [if_pos q, if_pos ((zI_lt ⟨h.2.2.1, h.2.2.2, h.1, h.2.1⟩).mpr q)]
    · rw [if_neg q, if_neg (fun z => q ((zI_lt ⟨h.2.2.1, h.2.2.2, h.1, h.2.1⟩).mp z))]
  rw [show vi (min x y) = .int (if zI y < zI x then zI y else zI x) from congrArg Value.int he] at k1
  exact va_mmin C.1 C.2.1 (by rw [C.2.2.1]; exact h1.1.symm) C.2.2.2.1 (C.2.2.2.2.1 _ hl) (C.2.2.2.2.1 _ qs_min) (C.2.2.2.2.1 _ qs_Math) (C.2.2.2.2.1 _ qc_min) (Nat.le_of_ble_eq_true hR.1) (Nat.le_of_ble_eq_true hR.2.1) (Nat.le_of_ble_eq_true hR.2.2.1) (Nat.le_of_ble_eq_true hR.2.2.2) hd k1
theorem r_mabs (C : CX g own cc nL ret A p s m args meth c) {x : Int} {index : Nat} (hl : Cond.methodLink own index Lib.Math.abs.name ∈ wsL_law) (hd : decode cc pc = .ok (.invokestatic index, 3)) (hR : Nat.ble 1 R.frames = true ∧ Nat.ble ((st.map fun v => v.category).sum + 13) R.locals = true ∧ Nat.ble cells R.cells = true ∧ Nat.ble slots R.slots = true) (h : -2147483648 ≤ x ∧ x ≤ 2147483647) (k : RUN g nL p l e R s m args below meth c A cells slots Q ws (pc + 3) lv (vi (if 0 ≤ x then x else -x) :: st)) : RUN g nL p l e R s m args below meth c A cells slots Q ws pc lv (vi x :: st) :=
  fun ls H locs h1 h2 h3 h4 => by
  have k1 := k ls H locs h1 h2 h3 h4
  have he : zI (if 0 ≤ x then x else -x) = (if 0 ≤ zI x then zI x else 0 - zI x) := by
    show _ = if zI 0 ≤ zI x then zI x else zI 0 - zI x
    by_cases q : 0 ≤ x
    · rw [if_pos q, if_pos ((zI_le (x := 0) ⟨by decide, by decide, h.1, h.2⟩).mpr q)]
    · rw [if_neg q, if_neg (fun z => q ((zI_le (x := 0) ⟨by decide, by decide, h.1, h.2⟩).mp z)), zI_sub, Int.zero_sub]
  rw [show vi (if 0 ≤ x then x else -x) = .int (if 0 ≤ zI x then zI x else 0 - zI x) from congrArg Value.int he] at k1
  exact va_mabs C.1 C.2.1 (by rw [C.2.2.1]; exact h1.1.symm) C.2.2.2.1 (C.2.2.2.2.1 _ hl) (C.2.2.2.2.1 _ qs_abs) (C.2.2.2.2.1 _ qs_Math) (C.2.2.2.2.1 _ qc_abs) (Nat.le_of_ble_eq_true hR.1) (Nat.le_of_ble_eq_true hR.2.1) (Nat.le_of_ble_eq_true hR.2.2.1) (Nat.le_of_ble_eq_true hR.2.2.2) hd k1
end
end
section
/-! ===== calls: the words of a call's site, the callee's contract, what comes back ===== -/
def KV (own : String) (idx : Nat) (C' : String) (y : MethodName) (bytes : ByteArray) (maxL : Nat) (ret : Option FieldType) (n : Nat) : Prop :=
  Cond.methodLink own idx y ∈ wsL_law ∧ Cond.instanceMethod y ∈ wsL_law ∧ Cond.selects C' y y ∈ wsL_law ∧ Cond.initialized C' ∈ wsL_law ∧ Cond.code y bytes maxL ret ∈ wsL_law ∧ (y.cls = C' ∧ y.cls ≠ "java/lang/invoke/MethodHandle" ∧ y.cls ≠ "java/lang/invoke/VarHandle" ∧ (parseMethodDescriptor y.desc).map (fun d => d.parameters.length) = some n)
def KS (own : String) (idx : Nat) (y : MethodName) (bytes : ByteArray) (maxL : Nat) (ret : Option FieldType) (n : Nat) : Prop :=
  Cond.methodLink own idx y ∈ wsL_law ∧ Cond.static y ∈ wsL_law ∧ Cond.initialized y.cls ∈ wsL_law ∧ Cond.code y bytes maxL ret ∈ wsL_law ∧ (y.cls ≠ "java/lang/invoke/MethodHandle" ∧ y.cls ≠ "java/lang/invoke/VarHandle" ∧ (parseMethodDescriptor y.desc).map (fun d => d.parameters.length) = some n)
def KN (own : String) (idx : Nat) (host : String) (y : MethodName) (bytes : ByteArray) (maxL : Nat) (ret : Option FieldType) (n : Nat) : Prop :=
  (own, idx, y, host) ∈ nwM ∧ Cond.static y ∈ wsL_law ∧ Cond.initialized y.cls ∈ wsL_law ∧ Cond.code y bytes maxL ret ∈ wsL_law ∧ (y.cls ≠ "java/lang/invoke/MethodHandle" ∧ y.cls ≠ "java/lang/invoke/VarHandle" ∧ (parseMethodDescriptor y.desc).map (fun d => d.parameters.length) = some n)
theorem wsL_all : ∀ w ∈ wsL_law, (w.onTables && w.keeps) = true ∨ ∃ ty, w = .arrayClass ty := fun w h => good_of_word (List.all_eq_true.mp wsL_good w h)
theorem good_c {y : MethodName} {bytes : ByteArray} {maxL : Nat} {ret : Option FieldType} (h : Cond.code y bytes maxL ret ∈ wsL_law) : GoodIn wsL_law (Cond.code y bytes maxL ret :: wsL_law) := fun w hw => by
  rcases List.mem_cons.mp hw with h1 | h1
  · exact h1 ▸ ⟨h, wsL_all _ h⟩
  · exact ⟨h1, wsL_all _ h1⟩
theorem good_V {own C' : String} {idx : Nat} {y : MethodName} {bytes : ByteArray} {maxL n : Nat} {ret : Option FieldType} (h : KV own idx C' y bytes maxL ret n) : GoodIn wsL_law (wsV own idx C' y (Cond.code y bytes maxL ret :: wsL_law)) := fun w hw => by
  rcases List.mem_append.mp hw with h1 | h1
  · simp only [List.mem_cons, List.not_mem_nil, or_false] at h1
    rcases h1 with h1 | h1 | h1 | h1
    · exact h1 ▸ ⟨h.1, wsL_all _ h.1⟩
    · exact h1 ▸ ⟨h.2.1, wsL_all _ h.2.1⟩
    · exact h1 ▸ ⟨h.2.2.1, wsL_all _ h.2.2.1⟩
    · exact h1 ▸ ⟨h.2.2.2.1, wsL_all _ h.2.2.2.1⟩
  · exact good_c h.2.2.2.2.1 w h1
theorem good_S {own : String} {idx : Nat} {y : MethodName} {bytes : ByteArray} {maxL n : Nat} {ret : Option FieldType} (h : KS own idx y bytes maxL ret n) : GoodIn wsL_law (va_wsS own idx y (Cond.code y bytes maxL ret :: wsL_law)) := fun w hw => by
  rcases List.mem_append.mp hw with h1 | h1
  · simp only [List.mem_cons, List.not_mem_nil, or_false] at h1
    rcases h1 with h1 | h1 | h1
    · exact h1 ▸ ⟨h.1, wsL_all _ h.1⟩
    · exact h1 ▸ ⟨h.2.1, wsL_all _ h.2.1⟩
    · exact h1 ▸ ⟨h.2.2.1, wsL_all _ h.2.2.1⟩
  · exact good_c h.2.2.2.1 w h1
/-- the room that a callee takes, in the caller's -/
def RM (rm R : Room) (maxL : Nat) (rest : List Value) : Bool := Nat.ble (rm.frames + 1) R.frames && Nat.ble (8 + (maxL + 11) + rm.locals) R.locals && Nat.beq rm.cells 0 && Nat.beq rm.slots 0 && Nat.ble ((rest.map fun v => v.category).sum) 8
section
variable {g : Gx} {own : String} {cc : ByteArray} {nL : Nat} {ret : Option FieldType} {p : Program} {l : Launch} {e : Env} {R : Room} {s : State} {m : MethodId} {args : Array Value} {below : List Frame} {meth : Method} {c : Code} {A : Nat → Prop} {cells slots : Nat} {Q : State → Prop} {ws : va_W} {pc : Nat} {lv : List (Nat × Value)} {rest : List Value}
theorem pre_call {H : Heap} {locs : List Loc} {wc : va_W} {av : List Value} (C : CX g own cc nL ret A p s m args meth c) (h2 : va_P g.1 vwCl ws H) (h3 : va_D A ws) (h4 : va_S A s.heap H locs) (isC : List Nat) (hC : isC.map (fun i => ws[i]?) = wc.map some) (hnd : va_nd isC = true) :
    (∀ q, va_A wc H.size q → A q) ∧ ∀ U : State, U.heap = H → s.WarmedH U.vm → PR g av wc H.size av.toArray U := by
  have hF := va_free h3 h4 C.2.2.2.2.2.2.2.2.2.1 isC hC
  refine ⟨hF, fun U hU hW => ⟨rfl, by rw [hU], ?_, va_K.moved hW.alike C.2.2.2.2.2.1, (h3.sub isC hnd hC).weaken (fun _ _ _ _ => trivial), Nst.warm hW C.2.2.2.2.2.2.1, ?_⟩⟩
  · rw [hU]
    intro k q hq
    have hl : k < isC.length := by
      have : isC.length = wc.length := by simpa using congrArg List.length hC
      rw [this]; exact (List.getElem?_eq_some_iff.mp hq).1
    obtain ⟨q', h5, h6⟩ := map_some_get hC (List.getElem?_eq_getElem hl)
    rw [hq] at h5
    cases h5
    exact h2 _ _ h6
  · rw [hU]
    exact ((C.2.2.2.2.2.2.2.2.2.2.kept (fun a h5 h6 => h4.2.1 a h5 h6)).narrow hF).moved hW.alike
theorem aft_i {S : Type} {post : Int → S → Prop} {Wf : S → va_W} {wc : va_W} {ws' : S → va_W} {st0 : List Value} {a : Array Value} {ls : Array Slot} {H : Heap} {locs : List Loc} (h1 : lv_has ls nL lv) (h2 : va_P g.1 vwCl ws H) (h3 : va_D A ws) (h4 : va_S A s.heap H locs) (isC : List Nat) (hC : isC.map (fun i => ws[i]?) = wc.map some) (hF : ∀ q, va_A wc H.size q → A q)
    (hr : va_Run p l e R s m args below meth c H locs cells slots 0 0 (F0 m pc ls st0) rest (PI g post Wf wc H.size a) (va_A wc H.size)) (ha : ∀ u, (Wf u).map Prod.fst = wc.map Prod.fst) (hw : ∀ u, wput ws isC (Wf u) = ws' u)
    (k : ∀ (x : Int) (u : S), post x u → RUN g nL p l e R s m args below meth c A cells slots Q (ws' u) (pc + 3) lv (vi x :: rest)) : W p l e R s m args below meth c H locs cells slots Q (F0 m pc ls st0) := by
  refine va_calli hr h4 (fun q _ h => hF q h) hF (fun r u t H1 locs1 ht hvm hpo hB hz hk hS => ?_)
  obtain ⟨x, rfl, hpx⟩ := hpo
  obtain ⟨hP1, -⟩ := hB
  rw [ht] at hP1
  obtain ⟨h5, h6⟩ := wput_P h2 h3 hC (ha u) hk hP1
  rw [hw u] at h5 h6
  exact k x u hpx ls H1 locs1 h1 h5 h6 hS
theorem aft_v {S : Type} {post : S → Prop} {Wf : S → va_W} {wc : va_W} {ws' : S → va_W} {st0 : List Value} {a : Array Value} {ls : Array Slot} {H : Heap} {locs : List Loc} (h1 : lv_has ls nL lv) (h2 : va_P g.1 vwCl ws H) (h3 : va_D A ws) (h4 : va_S A s.heap H locs) (isC : List Nat) (hC : isC.map (fun i => ws[i]?) = wc.map some) (hF : ∀ q, va_A wc H.size q → A q)
    (hr : va_Run p l e R s m args below meth c H locs cells slots 0 0 (F0 m pc ls st0) rest (PV g post Wf wc H.size a) (va_A wc H.size)) (ha : ∀ u, (Wf u).map Prod.fst = wc.map Prod.fst) (hw : ∀ u, wput ws isC (Wf u) = ws' u)
    (k : ∀ (u : S), post u → RUN g nL p l e R s m args below meth c A cells slots Q (ws' u) (pc + 3) lv rest) : W p l e R s m args below meth c H locs cells slots Q (F0 m pc ls st0) := by
  refine va_callv hr h4 (fun q _ h => hF q h) hF (fun u t H1 locs1 ht hvm hpo hB hz hk hS => ?_)
  obtain ⟨hP1, -⟩ := hB
  rw [ht] at hP1
  obtain ⟨h5, h6⟩ := wput_P h2 h3 hC (ha u) hk hP1
  rw [hw u] at h5 h6
  exact k u hpo ls H1 locs1 h1 h5 h6 hS
theorem aft_a {S : Type} {b : Nat} {post : S → Prop} {Wf : S → va_W} {wc : va_W} {ws' : S → va_W} {st0 : List Value} {a : Array Value} {ls : Array Slot} {H : Heap} {locs : List Loc} (h1 : lv_has ls nL lv) (h2 : va_P g.1 vwCl ws H) (h3 : va_D A ws) (h4 : va_S A s.heap H locs) (isC : List Nat) (hC : isC.map (fun i => ws[i]?) = wc.map some) (hF : ∀ q, va_A wc H.size q → A q)
    (hr : va_Run p l e R s m args below meth c H locs cells slots 0 0 (F0 m pc ls st0) rest (PA g b post Wf wc H.size a) (va_A wc H.size)) (ha : ∀ u, (Wf u).map Prod.fst = wc.map Prod.fst) (hw : ∀ u, wput ws isC (Wf u) = ws' u)
    (k : ∀ (u : S), post u → RUN g nL p l e R s m args below meth c A cells slots Q (ws' u) (pc + 3) lv (.ref b :: rest)) : W p l e R s m args below meth c H locs cells slots Q (F0 m pc ls st0) := by
  refine va_callr hr h4 (fun q _ h => hF q h) hF (fun u ra t H1 locs1 ht hvm hpo hB hz hk hS => ?_)
  obtain ⟨rfl, hP1, -⟩ := hB
  rw [ht] at hP1
  obtain ⟨h5, h6⟩ := wput_P h2 h3 hC (ha u) hk hP1
  rw [hw u] at h5 h6
  exact k u hpo ls H1 locs1 h1 h5 h6 hS
theorem run_V {y : MethodName} {C' : String} {idx maxL n b : Nat} {bytes : ByteArray} {ret' : Option FieldType} {rm : Room} {Qc : Nat → Array Value → State → Outcome → State → Prop} {As : List Value} {wc : va_W} {st0 : List Value} {ls : Array Slot} {H : Heap} {locs : List Loc} (C : CX g own cc nL ret A p s m args meth c) (h1 : lv_has ls nL lv) (h2 : va_P g.1 vwCl ws H) (h3 : va_D A ws) (h4 : va_S A s.heap H locs)
    (M : ∀ sz, Met l y (.code y bytes maxL ret' :: wsL_law) rm (PR g (.ref b :: As) wc sz) (Qc sz) 0 0 (va_A wc sz)) (kw : KV own idx C' y bytes maxL ret' n) (hd : decode cc pc = .ok (.invokevirtual idx, 3)) (hn : As.length = n) (hst : st0 = As.reverse ++ .ref b :: rest) (hR : RM rm R maxL rest = true) (hcs : Nat.ble cells R.cells = true ∧ Nat.ble slots R.slots = true) (q0 ci : Nat) {fs : List Value} {q : vw_C} (hq : ws[q0]? = some (b, oB ci fs)) (hci : vwCl[ci]? = some q) (hqc : q.1 = C') (isC : List Nat) (hC : isC.map (fun i => ws[i]?) = wc.map some) (hnd : va_nd isC = true) :
    va_Run p l e R s m args below meth c H locs cells slots 0 0 (F0 m pc ls st0) rest (Qc H.size (Value.ref b :: As).toArray) (va_A wc H.size) := by
  simp only [RM, Bool.and_eq_true] at hR
  obtain ⟨⟨⟨⟨hR1, hR2⟩, hR3⟩, hR4⟩, hR5⟩ := hR
  obtain ⟨-, hpre⟩ := pre_call (av := .ref b :: As) C h2 h3 h4 isC hC hnd
  refine va_runV ⟨C.1, C.2.1, C.2.2.1, C.2.2.2.1, C.2.2.2.2.1⟩ (M H.size) (cwV n C.2.2.2.2.1 (good_V kw) rfl (Nat.eq_of_beq_eq_true hR3) (Nat.eq_of_beq_eq_true hR4) kw.2.2.2.2.2 ⟨Nat.le_of_ble_eq_true hR1, Nat.le_of_ble_eq_true hR2⟩) ⟨PR.blind, ?_, hpre⟩ rfl hn h1.1 hst (lv_room (Nat.le_of_ble_eq_true hR5)) hd ⟨Nat.le_of_ble_eq_true hcs.1, Nat.le_of_ble_eq_true hcs.2⟩
  exact hqc ▸ va_recv C.2.2.2.2.2.1 h2 hci hq
theorem run_S {y : MethodName} {idx maxL n : Nat} {bytes : ByteArray} {ret' : Option FieldType} {rm : Room} {Qc : Nat → Array Value → State → Outcome → State → Prop} {As : List Value} {wc : va_W} {st0 : List Value} {ls : Array Slot} {H : Heap} {locs : List Loc} (C : CX g own cc nL ret A p s m args meth c) (h1 : lv_has ls nL lv) (h2 : va_P g.1 vwCl ws H) (h3 : va_D A ws) (h4 : va_S A s.heap H locs)
    (M : ∀ sz, Met l y (.code y bytes maxL ret' :: wsL_law) rm (PR g As wc sz) (Qc sz) 0 0 (va_A wc sz)) (kw : KS own idx y bytes maxL ret' n) (hd : decode cc pc = .ok (.invokestatic idx, 3)) (hn : As.length = n) (hst : st0 = As.reverse ++ rest) (hR : RM rm R maxL rest = true) (hcs : Nat.ble cells R.cells = true ∧ Nat.ble slots R.slots = true) (isC : List Nat) (hC : isC.map (fun i => ws[i]?) = wc.map some) (hnd : va_nd isC = true) :
    va_Run p l e R s m args below meth c H locs cells slots 0 0 (F0 m pc ls st0) rest (Qc H.size As.toArray) (va_A wc H.size) := by
  simp only [RM, Bool.and_eq_true] at hR
  obtain ⟨⟨⟨⟨hR1, hR2⟩, hR3⟩, hR4⟩, hR5⟩ := hR
  obtain ⟨-, hpre⟩ := pre_call (av := As) C h2 h3 h4 isC hC hnd
  exact va_runS ⟨C.1, C.2.1, C.2.2.1, C.2.2.2.1, C.2.2.2.2.1⟩ (M H.size) (va_cwS n C.2.2.2.2.1 (good_S kw) rfl (Nat.eq_of_beq_eq_true hR3) (Nat.eq_of_beq_eq_true hR4) kw.2.2.2.2 ⟨Nat.le_of_ble_eq_true hR1, Nat.le_of_ble_eq_true hR2⟩) ⟨PR.blind, hpre⟩ rfl hn h1.1 hst (lv_room (Nat.le_of_ble_eq_true hR5)) hd ⟨Nat.le_of_ble_eq_true hcs.1, Nat.le_of_ble_eq_true hcs.2⟩
theorem run_N {y : MethodName} {host : String} {idx maxL n : Nat} {bytes : ByteArray} {ret' : Option FieldType} {rm : Room} {Qc : Nat → Array Value → State → Outcome → State → Prop} {As : List Value} {wc : va_W} {st0 : List Value} {ls : Array Slot} {H : Heap} {locs : List Loc} (C : CX g own cc nL ret A p s m args meth c) (h1 : lv_has ls nL lv) (h2 : va_P g.1 vwCl ws H) (h3 : va_D A ws) (h4 : va_S A s.heap H locs)
    (M : ∀ sz, Met l y (.code y bytes maxL ret' :: wsL_law) rm (PR g As wc sz) (Qc sz) 0 0 (va_A wc sz)) (kw : KN own idx host y bytes maxL ret' n) (hd : decode cc pc = .ok (.invokestatic idx, 3)) (hn : As.length = n) (hst : st0 = As.reverse ++ rest) (hR : RM rm R maxL rest = true) (hcs : Nat.ble cells R.cells = true ∧ Nat.ble slots R.slots = true) (isC : List Nat) (hC : isC.map (fun i => ws[i]?) = wc.map some) (hnd : va_nd isC = true) :
    va_Run p l e R s m args below meth c H locs cells slots 0 0 (F0 m pc ls st0) rest (Qc H.size As.toArray) (va_A wc H.size) := by
  simp only [RM, Bool.and_eq_true] at hR
  obtain ⟨⟨⟨⟨hR1, hR2⟩, hR3⟩, hR4⟩, hR5⟩ := hR
  obtain ⟨-, hpre⟩ := pre_call (av := As) C h2 h3 h4 isC hC hnd
  exact va_runSN (host := host) ⟨C.1, C.2.1, C.2.2.1, C.2.2.2.1, C.2.2.2.2.1⟩ (M H.size) ⟨va_cnB n C.2.2.2.2.1 (good_c kw.2.2.2.1) rfl (Nat.eq_of_beq_eq_true hR3) (Nat.eq_of_beq_eq_true hR4) (C.2.2.2.2.2.2.1.2 _ kw.1) (C.2.2.2.2.1 _ kw.2.2.1) kw.2.2.2.2 ⟨Nat.le_of_ble_eq_true hR1, Nat.le_of_ble_eq_true hR2⟩, C.2.2.2.2.1 _ kw.2.1, trivial⟩ ⟨PR.blind, hpre⟩ rfl hn h1.1 hst (lv_room (Nat.le_of_ble_eq_true hR5)) hd ⟨Nat.le_of_ble_eq_true hcs.1, Nat.le_of_ble_eq_true hcs.2⟩
end
section
variable {g : Gx} {own : String} {cc : ByteArray} {nL : Nat} {ret : Option FieldType} {p : Program} {l : Launch} {e : Env} {R : Room} {s : State} {m : MethodId} {args : Array Value} {below : List Frame} {meth : Method} {c : Code} {A : Nat → Prop} {cells slots : Nat} {Q : State → Prop} {ws : va_W} {pc : Nat} {lv : List (Nat × Value)} {rest : List Value}
theorem k_Vi {y : MethodName} {C' : String} {idx maxL n b : Nat} {bytes : ByteArray} {ret' : Option FieldType} {rm : Room} {S : Type} {post : Int → S → Prop} {Wf : S → va_W} {As : List Value} {wc : va_W} {ws' : S → va_W} {st0 : List Value} (C : CX g own cc nL ret A p s m args meth c) (kw : KV own idx C' y bytes maxL ret' n) (M : ∀ sz, Met l y (.code y bytes maxL ret' :: wsL_law) rm (PR g (.ref b :: As) wc sz) (PI g post Wf wc sz) 0 0 (va_A wc sz)) (hd : decode cc pc = .ok (.invokevirtual idx, 3)) (hn : As.length = n) (hst : st0 = As.reverse ++ .ref b :: rest) (hR : RM rm R maxL rest = true) (hcs : Nat.ble cells R.cells = true ∧ Nat.ble slots R.slots = true) (q0 ci : Nat) {fs : List Value} {q : vw_C} (hq : ws[q0]? = some (b, oB ci fs)) (hci : vwCl[ci]? = some q) (hqc : q.1 = C') (isC : List Nat) (hC : isC.map (fun i => ws[i]?) = wc.map some) (hnd : va_nd isC = true) (ha : ∀ u, (Wf u).map Prod.fst = wc.map Prod.fst) (hw : ∀ u, wput ws isC (Wf u) = ws' u) (k : ∀ (x : Int) (u : S), post x u → RUN g nL p l e R s m args below meth c A cells slots Q (ws' u) (pc + 3) lv (vi x :: rest)) : RUN g nL p l e R s m args below meth c A cells slots Q ws pc lv st0 := fun ls H locs h1 h2 h3 h4 =>
  aft_i h1 h2 h3 h4 isC hC (pre_call (av := []) C h2 h3 h4 isC hC hnd).1 (run_V (Qc := fun sz => PI g post Wf wc sz) C h1 h2 h3 h4 M kw hd hn hst hR hcs q0 ci hq hci hqc isC hC hnd) ha hw k
theorem k_Vv {y : MethodName} {C' : String} {idx maxL n b : Nat} {bytes : ByteArray} {ret' : Option FieldType} {rm : Room} {S : Type} {post : S → Prop} {Wf : S → va_W} {As : List Value} {wc : va_W} {ws' : S → va_W} {st0 : List Value} (C : CX g own cc nL ret A p s m args meth c) (kw : KV own idx C' y bytes maxL ret' n) (M : ∀ sz, Met l y (.code y bytes maxL ret' :: wsL_law) rm (PR g (.ref b :: As) wc sz) (PV g post Wf wc sz) 0 0 (va_A wc sz)) (hd : decode cc pc = .ok (.invokevirtual idx, 3)) (hn : As.length = n) (hst : st0 = As.reverse ++ .ref b :: rest) (hR : RM rm R maxL rest = true) (hcs : Nat.ble cells R.cells = true ∧ Nat.ble slots R.slots = true) (q0 ci : Nat) {fs : List Value} {q : vw_C} (hq : ws[q0]? = some (b, oB ci fs)) (hci : vwCl[ci]? = some q) (hqc : q.1 = C') (isC : List Nat) (hC : isC.map (fun i => ws[i]?) = wc.map some) (hnd : va_nd isC = true) (ha : ∀ u, (Wf u).map Prod.fst = wc.map Prod.fst) (hw : ∀ u, wput ws isC (Wf u) = ws' u) (k : ∀ (u : S), post u → RUN g nL p l e R s m args below meth c A cells slots Q (ws' u) (pc + 3) lv rest) : RUN g nL p l e R s m args below meth c A cells slots Q ws pc lv st0 := fun ls H locs h1 h2 h3 h4 =>
  aft_v h1 h2 h3 h4 isC hC (pre_call (av := []) C h2 h3 h4 isC hC hnd).1 (run_V (Qc := fun sz => PV g post Wf wc sz) C h1 h2 h3 h4 M kw hd hn hst hR hcs q0 ci hq hci hqc isC hC hnd) ha hw k
theorem k_Va {y : MethodName} {C' : String} {idx maxL n b : Nat} {bytes : ByteArray} {ret' : Option FieldType} {rm : Room} {S : Type} {r0 : Nat} {post : S → Prop} {Wf : S → va_W} {As : List Value} {wc : va_W} {ws' : S → va_W} {st0 : List Value} (C : CX g own cc nL ret A p s m args meth c) (kw : KV own idx C' y bytes maxL ret' n) (M : ∀ sz, Met l y (.code y bytes maxL ret' :: wsL_law) rm (PR g (.ref b :: As) wc sz) (PA g r0 post Wf wc sz) 0 0 (va_A wc sz)) (hd : decode cc pc = .ok (.invokevirtual idx, 3)) (hn : As.length = n) (hst : st0 = As.reverse ++ .ref b :: rest) (hR : RM rm R maxL rest = true) (hcs : Nat.ble cells R.cells = true ∧ Nat.ble slots R.slots = true) (q0 ci : Nat) {fs : List Value} {q : vw_C} (hq : ws[q0]? = some (b, oB ci fs)) (hci : vwCl[ci]? = some q) (hqc : q.1 = C') (isC : List Nat) (hC : isC.map (fun i => ws[i]?) = wc.map some) (hnd : va_nd isC = true) (ha : ∀ u, (Wf u).map Prod.fst = wc.map Prod.fst) (hw : ∀ u, wput ws isC (Wf u) = ws' u) (k : ∀ (u : S), post u → RUN g nL p l e R s m args below meth c A cells slots Q (ws' u) (pc + 3) lv (.ref r0 :: rest)) : RUN g nL p l e R s m args below meth c A cells slots Q ws pc lv st0 := fun ls H locs h1 h2 h3 h4 =>
  aft_a h1 h2 h3 h4 isC hC (pre_call (av := []) C h2 h3 h4 isC hC hnd).1 (run_V (Qc := fun sz => PA g r0 post Wf wc sz) C h1 h2 h3 h4 M kw hd hn hst hR hcs q0 ci hq hci hqc isC hC hnd) ha hw k
theorem k_Si {y : MethodName} {idx maxL n : Nat} {bytes : ByteArray} {ret' : Option FieldType} {rm : Room} {S : Type} {post : Int → S → Prop} {Wf : S → va_W} {As : List Value} {wc : va_W} {ws' : S → va_W} {st0 : List Value} (C : CX g own cc nL ret A p s m args meth c) (kw : KS own idx y bytes maxL ret' n) (M : ∀ sz, Met l y (.code y bytes maxL ret' :: wsL_law) rm (PR g As wc sz) (PI g post Wf wc sz) 0 0 (va_A wc sz)) (hd : decode cc pc = .ok (.invokestatic idx, 3)) (hn : As.length = n) (hst : st0 = As.reverse ++ rest) (hR : RM rm R maxL rest = true) (hcs : Nat.ble cells R.cells = true ∧ Nat.ble slots R.slots = true) (isC : List Nat) (hC : isC.map (fun i => ws[i]?) = wc.map some) (hnd : va_nd isC = true) (ha : ∀ u, (Wf u).map Prod.fst = wc.map Prod.fst) (hw : ∀ u, wput ws isC (Wf u) = ws' u) (k : ∀ (x : Int) (u : S), post x u → RUN g nL p l e R s m args below meth c A cells slots Q (ws' u) (pc + 3) lv (vi x :: rest)) : RUN g nL p l e R s m args below meth c A cells slots Q ws pc lv st0 := fun ls H locs h1 h2 h3 h4 =>
  aft_i h1 h2 h3 h4 isC hC (pre_call (av := []) C h2 h3 h4 isC hC hnd).1 (run_S (Qc := fun sz => PI g post Wf wc sz) C h1 h2 h3 h4 M kw hd hn hst hR hcs isC hC hnd) ha hw k
theorem k_Sv {y : MethodName} {idx maxL n : Nat} {bytes : ByteArray} {ret' : Option FieldType} {rm : Room} {S : Type} {post : S → Prop} {Wf : S → va_W} {As : List Value} {wc : va_W} {ws' : S → va_W} {st0 : List Value} (C : CX g own cc nL ret A p s m args meth c) (kw : KS own idx y bytes maxL ret' n) (M : ∀ sz, Met l y (.code y bytes maxL ret' :: wsL_law) rm (PR g As wc sz) (PV g post Wf wc sz) 0 0 (va_A wc sz)) (hd : decode cc pc = .ok (.invokestatic idx, 3)) (hn : As.length = n) (hst : st0 = As.reverse ++ rest) (hR : RM rm R maxL rest = true) (hcs : Nat.ble cells R.cells = true ∧ Nat.ble slots R.slots = true) (isC : List Nat) (hC : isC.map (fun i => ws[i]?) = wc.map some) (hnd : va_nd isC = true) (ha : ∀ u, (Wf u).map Prod.fst = wc.map Prod.fst) (hw : ∀ u, wput ws isC (Wf u) = ws' u) (k : ∀ (u : S), post u → RUN g nL p l e R s m args below meth c A cells slots Q (ws' u) (pc + 3) lv rest) : RUN g nL p l e R s m args below meth c A cells slots Q ws pc lv st0 := fun ls H locs h1 h2 h3 h4 =>
  aft_v h1 h2 h3 h4 isC hC (pre_call (av := []) C h2 h3 h4 isC hC hnd).1 (run_S (Qc := fun sz => PV g post Wf wc sz) C h1 h2 h3 h4 M kw hd hn hst hR hcs isC hC hnd) ha hw k
theorem k_Sa {y : MethodName} {idx maxL n : Nat} {bytes : ByteArray} {ret' : Option FieldType} {rm : Room} {S : Type} {r0 : Nat} {post : S → Prop} {Wf : S → va_W} {As : List Value} {wc : va_W} {ws' : S → va_W} {st0 : List Value} (C : CX g own cc nL ret A p s m args meth c) (kw : KS own idx y bytes maxL ret' n) (M : ∀ sz, Met l y (.code y bytes maxL ret' :: wsL_law) rm (PR g As wc sz) (PA g r0 post Wf wc sz) 0 0 (va_A wc sz)) (hd : decode cc pc = .ok (.invokestatic idx, 3)) (hn : As.length = n) (hst : st0 = As.reverse ++ rest) (hR : RM rm R maxL rest = true) (hcs : Nat.ble cells R.cells = true ∧ Nat.ble slots R.slots = true) (isC : List Nat) (hC : isC.map (fun i => ws[i]?) = wc.map some) (hnd : va_nd isC = true) (ha : ∀ u, (Wf u).map Prod.fst = wc.map Prod.fst) (hw : ∀ u, wput ws isC (Wf u) = ws' u) (k : ∀ (u : S), post u → RUN g nL p l e R s m args below meth c A cells slots Q (ws' u) (pc + 3) lv (.ref r0 :: rest)) : RUN g nL p l e R s m args below meth c A cells slots Q ws pc lv st0 := fun ls H locs h1 h2 h3 h4 =>
  aft_a h1 h2 h3 h4 isC hC (pre_call (av := []) C h2 h3 h4 isC hC hnd).1 (run_S (Qc := fun sz => PA g r0 post Wf wc sz) C h1 h2 h3 h4 M kw hd hn hst hR hcs isC hC hnd) ha hw k
theorem k_Ni {y : MethodName} {host : String} {idx maxL n : Nat} {bytes : ByteArray} {ret' : Option FieldType} {rm : Room} {S : Type} {post : Int → S → Prop} {Wf : S → va_W} {As : List Value} {wc : va_W} {ws' : S → va_W} {st0 : List Value} (C : CX g own cc nL ret A p s m args meth c) (kw : KN own idx host y bytes maxL ret' n) (M : ∀ sz, Met l y (.code y bytes maxL ret' :: wsL_law) rm (PR g As wc sz) (PI g post Wf wc sz) 0 0 (va_A wc sz)) (hd : decode cc pc = .ok (.invokestatic idx, 3)) (hn : As.length = n) (hst : st0 = As.reverse ++ rest) (hR : RM rm R maxL rest = true) (hcs : Nat.ble cells R.cells = true ∧ Nat.ble slots R.slots = true) (isC : List Nat) (hC : isC.map (fun i => ws[i]?) = wc.map some) (hnd : va_nd isC = true) (ha : ∀ u, (Wf u).map Prod.fst = wc.map Prod.fst) (hw : ∀ u, wput ws isC (Wf u) = ws' u) (k : ∀ (x : Int) (u : S), post x u → RUN g nL p l e R s m args below meth c A cells slots Q (ws' u) (pc + 3) lv (vi x :: rest)) : RUN g nL p l e R s m args below meth c A cells slots Q ws pc lv st0 := fun ls H locs h1 h2 h3 h4 =>
  aft_i h1 h2 h3 h4 isC hC (pre_call (av := []) C h2 h3 h4 isC hC hnd).1 (run_N (Qc := fun sz => PI g post Wf wc sz) C h1 h2 h3 h4 M kw hd hn hst hR hcs isC hC hnd) ha hw k
theorem k_Nv {y : MethodName} {host : String} {idx maxL n : Nat} {bytes : ByteArray} {ret' : Option FieldType} {rm : Room} {S : Type} {post : S → Prop} {Wf : S → va_W} {As : List Value} {wc : va_W} {ws' : S → va_W} {st0 : List Value} (C : CX g own cc nL ret A p s m args meth c) (kw : KN own idx host y bytes maxL ret' n) (M : ∀ sz, Met l y (.code y bytes maxL ret' :: wsL_law) rm (PR g As wc sz) (PV g post Wf wc sz) 0 0 (va_A wc sz)) (hd : decode cc pc = .ok (.invokestatic idx, 3)) (hn : As.length = n) (hst : st0 = As.reverse ++ rest) (hR : RM rm R maxL rest = true) (hcs : Nat.ble cells R.cells = true ∧ Nat.ble slots R.slots = true) (isC : List Nat) (hC : isC.map (fun i => ws[i]?) = wc.map some) (hnd : va_nd isC = true) (ha : ∀ u, (Wf u).map Prod.fst = wc.map Prod.fst) (hw : ∀ u, wput ws isC (Wf u) = ws' u) (k : ∀ (u : S), post u → RUN g nL p l e R s m args below meth c A cells slots Q (ws' u) (pc + 3) lv rest) : RUN g nL p l e R s m args below meth c A cells slots Q ws pc lv st0 := fun ls H locs h1 h2 h3 h4 =>
  aft_v h1 h2 h3 h4 isC hC (pre_call (av := []) C h2 h3 h4 isC hC hnd).1 (run_N (Qc := fun sz => PV g post Wf wc sz) C h1 h2 h3 h4 M kw hd hn hst hR hcs isC hC hnd) ha hw k
theorem k_Na {y : MethodName} {host : String} {idx maxL n : Nat} {bytes : ByteArray} {ret' : Option FieldType} {rm : Room} {S : Type} {r0 : Nat} {post : S → Prop} {Wf : S → va_W} {As : List Value} {wc : va_W} {ws' : S → va_W} {st0 : List Value} (C : CX g own cc nL ret A p s m args meth c) (kw : KN own idx host y bytes maxL ret' n) (M : ∀ sz, Met l y (.code y bytes maxL ret' :: wsL_law) rm (PR g As wc sz) (PA g r0 post Wf wc sz) 0 0 (va_A wc sz)) (hd : decode cc pc = .ok (.invokestatic idx, 3)) (hn : As.length = n) (hst : st0 = As.reverse ++ rest) (hR : RM rm R maxL rest = true) (hcs : Nat.ble cells R.cells = true ∧ Nat.ble slots R.slots = true) (isC : List Nat) (hC : isC.map (fun i => ws[i]?) = wc.map some) (hnd : va_nd isC = true) (ha : ∀ u, (Wf u).map Prod.fst = wc.map Prod.fst) (hw : ∀ u, wput ws isC (Wf u) = ws' u) (k : ∀ (u : S), post u → RUN g nL p l e R s m args below meth c A cells slots Q (ws' u) (pc + 3) lv (.ref r0 :: rest)) : RUN g nL p l e R s m args below meth c A cells slots Q ws pc lv st0 := fun ls H locs h1 h2 h3 h4 =>
  aft_a h1 h2 h3 h4 isC hC (pre_call (av := []) C h2 h3 h4 isC hC hnd).1 (run_N (Qc := fun sz => PA g r0 post Wf wc sz) C h1 h2 h3 h4 M kw hd hn hst hR hcs isC hC hnd) ha hw k
end
theorem CX.of {g : Gx} {l : Launch} {y : MethodName} {cc : ByteArray} {nL : Nat} {ret : Option FieldType} {rm : Room} {av : List Value} {ws : va_W} {sz : Nat} {p : Program} {e : Env} {s : State} {m : MethodId} {args : Array Value} {below : List Frame} {meth : Method} {c : Code} {s1 : State} (B : BodyLoose p l y (headSpec (.code y cc nL ret :: wsL_law) rm) cc nL ret e s m args below meth c s1) (hml : c.maxLocals = nL) (hv : PR g av ws sz args s) : CX g y.cls cc nL ret (va_A ws sz) p s m args meth c := by
  obtain ⟨-, hsz, hP, hK, hD0, hN, hZ⟩ := hv
  have hts := atoms_spec (ws := .code y cc nL ret :: wsL_law) B.pre
  exact ⟨B.exec, B.bytes, hml, findClass_of_methodNamed B.named, fun w h => hts w (List.mem_cons_of_mem _ h), hK, hN, B.returns, B.notSynchronized, fun q h => Or.inr (hsz ▸ h), hZ⟩
theorem meet {g : Gx} {l : Launch} {y : MethodName} {cc : ByteArray} {nL : Nat} {ret : Option FieldType} {rm : Room} {av : List Value} {ws : va_W} {sz : Nat} {Qc : Array Value → State → Outcome → State → Prop} {own : String} (how : y.cls = own) (hy : plainName y.cls = true) (hav : Nat.ble (lg_sl av).length nL = true)
    (body : ∀ (p : Program) (e : Env) (s : State) (m : MethodId) (args : Array Value) (below : List Frame) (meth : Method) (c : Code), CX g own cc nL ret (va_A ws sz) p s m args meth c → (meth.name = y.name) → RUN g nL p l e rm s m args below meth c (va_A ws sz) 0 0 (MQ below Qc args s 0 0 (va_A ws sz)) ws 0 (lv_args 0 av) []) : Met l y (.code y cc nL ret :: wsL_law) rm (PR g av ws sz) Qc 0 0 (va_A ws sz) := by
  refine Met.ofW (cc := cc) (maxL := nL) (ret := ret) hy rfl ?_
  intro p e s m args below meth c s1 B hml hv
  have hC := CX.of B hml hv
  have hnm : meth.name = y.name := (name_of_methodNamed B.named B.method).1
  obtain ⟨rfl, hsz, hP, hK, hD0, hN, hZ⟩ := hv
  have hl := lv_entry av (n := nL) (Nat.le_of_ble_eq_true hav)
  rw [lg_entry_eq]
  exact body p e s m _ below meth c (how ▸ hC) hnm _ s.heap [] hl hP (hD0.self (sz := sz)) va_S.rf
section
variable {g : Gx} {own : String} {cc : ByteArray} {nL : Nat} {ret : Option FieldType} {p : Program} {l : Launch} {e : Env} {R : Room} {s : State} {m : MethodId} {args : Array Value} {below : List Frame} {meth : Method} {c : Code} {wc : va_W} {sz : Nat} {ws : va_W} {pc : Nat} {lv : List (Nat × Value)} {S : Type} {Wf : S → va_W}
theorem e_i {post : Int → S → Prop} (C : CX g own cc nL (some .int) (va_A wc sz) p s m args meth c) {x : Int} (u : S) (hd : decode cc pc = .ok (.ireturn, 1)) (hp : post x u) (hw : Wf u = ws) : RUN g nL p l e R s m args below meth c (va_A wc sz) 0 0 (MQ below (PI g post Wf wc sz) args s 0 0 (va_A wc sz)) ws pc lv [vi x] := fun ls H locs h1 h2 h3 h4 => by
  subst hw
  exact W.iret C.1 C.2.1 C.2.2.2.2.2.2.2.1 (fun t ht hW => ⟨⟨zI x, u, rfl, ⟨x, rfl, hp⟩, by rw [ht]; exact h2, h3⟩, h4.F ht⟩) h4.2.2 hd C.2.2.2.2.2.2.2.2.1
theorem e_z {post : Int → S → Prop} (C : CX g own cc nL (some .boolean) (va_A wc sz) p s m args meth c) {x : Int} (u : S) (hd : decode cc pc = .ok (.ireturn, 1)) (hx : x = 0 ∨ x = 1) (hp : post x u) (hw : Wf u = ws) : RUN g nL p l e R s m args below meth c (va_A wc sz) 0 0 (MQ below (PI g post Wf wc sz) args s 0 0 (va_A wc sz)) ws pc lv [vi x] := fun ls H locs h1 h2 h3 h4 => by
  subst hw
  exact W.zret C.1 C.2.1 C.2.2.2.2.2.2.2.1 (by rcases hx with rfl | rfl <;> rfl) (fun t ht hW => ⟨⟨zI x, u, rfl, ⟨x, rfl, hp⟩, by rw [ht]; exact h2, h3⟩, h4.F ht⟩) h4.2.2 hd C.2.2.2.2.2.2.2.2.1
theorem e_c {post : Int → S → Prop} (C : CX g own cc nL (some .char) (va_A wc sz) p s m args meth c) {x : Int} (u : S) (hd : decode cc pc = .ok (.ireturn, 1)) (hx : narrow .char (vi x) = vi x) (hp : post x u) (hw : Wf u = ws) : RUN g nL p l e R s m args below meth c (va_A wc sz) 0 0 (MQ below (PI g post Wf wc sz) args s 0 0 (va_A wc sz)) ws pc lv [vi x] := fun ls H locs h1 h2 h3 h4 => by
  subst hw
  exact W.zret C.1 C.2.1 C.2.2.2.2.2.2.2.1 hx (fun t ht hW => ⟨⟨zI x, u, rfl, ⟨x, rfl, hp⟩, by rw [ht]; exact h2, h3⟩, h4.F ht⟩) h4.2.2 hd C.2.2.2.2.2.2.2.2.1
theorem e_v {post : S → Prop} (C : CX g own cc nL none (va_A wc sz) p s m args meth c) (u : S) (hd : decode cc pc = .ok (.return_, 1)) (hp : post u) (hw : Wf u = ws) : RUN g nL p l e R s m args below meth c (va_A wc sz) 0 0 (MQ below (PV g post Wf wc sz) args s 0 0 (va_A wc sz)) ws pc lv [] := fun ls H locs h1 h2 h3 h4 => by
  subst hw
  exact W.vret C.1 C.2.1 C.2.2.2.2.2.2.2.1 (fun t ht hW => ⟨⟨u, rfl, hp, by rw [ht]; exact h2, h3⟩, h4.F ht⟩) h4.2.2 hd C.2.2.2.2.2.2.2.2.1
theorem e_a {b : Nat} {nm : String} {post : S → Prop} (C : CX g own cc nL (some (.object nm)) (va_A wc sz) p s m args meth c) (u : S) (hd : decode cc pc = .ok (.areturn, 1)) (hp : post u) (hw : Wf u = ws) : RUN g nL p l e R s m args below meth c (va_A wc sz) 0 0 (MQ below (PA g b post Wf wc sz) args s 0 0 (va_A wc sz)) ws pc lv [.ref b] := fun ls H locs h1 h2 h3 h4 => by
  subst hw
  exact W.aret C.1 C.2.1 C.2.2.2.2.2.2.2.1 (Or.inl ⟨_, rfl⟩) (Or.inr ⟨b, rfl⟩) (fun t ht hW => ⟨⟨u, b, rfl, hp, rfl, by rw [ht]; exact h2, h3⟩, h4.F ht⟩) h4.2.2 hd C.2.2.2.2.2.2.2.2.1
end
end
section
section
variable {g : Gx} {own : String} {cc : ByteArray} {nL : Nat} {ret : Option FieldType} {p : Program} {l : Launch} {e : Env} {R : Room} {s : State} {m : MethodId} {args : Array Value} {below : List Frame} {meth : Method} {c : Code} {A : Nat → Prop} {cells slots : Nat} {Q : State → Prop} {ws : va_W} {pc : Nat} {lv : List (Nat × Value)} {st : List Value}
theorem r_at {ws' : va_W} {lv' : List (Nat × Value)} (h1 : ws = ws') (h2 : lv = lv') (k : RUN g nL p l e R s m args below meth c A cells slots Q ws' pc lv' st) : RUN g nL p l e R s m args below meth c A cells slots Q ws pc lv st := h1 ▸ h2 ▸ k
theorem r_loop {σ : Type} (I : σ → Prop) (μ : σ → Int) (Wσ : σ → va_W) (Lσ : σ → List (Nat × Value)) (hnn : ∀ z, I z → 0 ≤ μ z) (step : ∀ z, I z → (∀ y, I y → μ y < μ z → RUN g nL p l e R s m args below meth c A cells slots Q (Wσ y) pc (Lσ y) st) → RUN g nL p l e R s m args below meth c A cells slots Q (Wσ z) pc (Lσ z) st) (z0 : σ) (h0 : I z0) : RUN g nL p l e R s m args below meth c A cells slots Q (Wσ z0) pc (Lσ z0) st := by
  have key : ∀ (n : Nat) (z : σ), I z → μ z < (n : Int) → RUN g nL p l e R s m args below meth c A cells slots Q (Wσ z) pc (Lσ z) st := by
    intro n
    induction n with
    | zero => intro z hz hm; exact absurd hm (by have := hnn z hz; omega)
    | succ n ih => intro z hz hm; exact step z hz (fun y hy hlt => ih y hy (by omega))
  exact key ((μ z0).toNat + 1) z0 h0 (by have := hnn z0 h0; omega)
theorem r_tabIn (C : CX g own cc nL ret A p s m args meth c) {dflt lo hi : Int} {offs : Array Int} {len : Nat} {x v : Int} {off : Int} (tgt : Nat) (hd : decode cc pc = .ok (.tableswitch dflt lo hi offs, len)) (hx : x = v) (hv : -2147483648 ≤ v ∧ v ≤ 2147483647 ∧ lo ≤ v ∧ v ≤ hi) (ho : offs[(v - lo).toNat]? = some off) (ht : (pc : Int) + off = (tgt : Int)) (k : RUN g nL p l e R s m args below meth c A cells slots Q ws tgt lv st) : RUN g nL p l e R s m args below meth c A cells slots Q ws pc lv (vi x :: st) := fun ls H locs h1 h2 h3 h4 => by
  subst hx
  have e1 := zI_toInt (x := x) ⟨hv.1, hv.2.1⟩
  exact lv_tableIn C.1 C.2.1 hd (by rw [e1]; omega) (by rw [e1]; omega) (by rw [e1]; exact ho) ht (k ls H locs h1 h2 h3 h4)
theorem r_tabOut (C : CX g own cc nL ret A p s m args meth c) {dflt lo hi : Int} {offs : Array Int} {len : Nat} {x : Int} (tgt : Nat) (hd : decode cc pc = .ok (.tableswitch dflt lo hi offs, len)) (hx : -2147483648 ≤ x ∧ x ≤ 2147483647) (h : x < lo ∨ hi < x) (ht : (pc : Int) + dflt = (tgt : Int)) (k : RUN g nL p l e R s m args below meth c A cells slots Q ws tgt lv st) : RUN g nL p l e R s m args below meth c A cells slots Q ws pc lv (vi x :: st) := fun ls H locs h1 h2 h3 h4 =>
  lv_tableOut C.1 C.2.1 hd (by rw [zI_toInt hx]; exact h) ht (k ls H locs h1 h2 h3 h4)
theorem r_look (C : CX g own cc nL ret A p s m args meth c) {dflt : Int} {ps : Array (Int × Int)} {len : Nat} {x v : Int} {off : Int} (tgt : Nat) (hd : decode cc pc = .ok (.lookupswitch dflt ps, len)) (hx : x = v) (hv : -2147483648 ≤ v ∧ v ≤ 2147483647) (hp : (ps.toList.zip (ps.toList.drop 1)).all (fun (a, next) => a.1 < next.1) = true) (ho : Op.lookupswitch.offset ps.toList dflt v = off) (ht : (pc : Int) + off = (tgt : Int)) (k : RUN g nL p l e R s m args below meth c A cells slots Q ws tgt lv st) : RUN g nL p l e R s m args below meth c A cells slots Q ws pc lv (vi x :: st) := fun ls H locs h1 h2 h3 h4 => by
  subst hx
  exact lv_lookup C.1 C.2.1 hd hp (by rw [zI_toInt hv]; exact ho) ht (k ls H locs h1 h2 h3 h4)
theorem r_lookOut (C : CX g own cc nL ret A p s m args meth c) {dflt : Int} {ps : Array (Int × Int)} {len : Nat} {x : Int} (tgt : Nat) (hd : decode cc pc = .ok (.lookupswitch dflt ps, len)) (hv : -2147483648 ≤ x ∧ x ≤ 2147483647) (hp : (ps.toList.zip (ps.toList.drop 1)).all (fun (a, next) => a.1 < next.1) = true) (ho : ∀ q ∈ ps.toList, ¬ x = q.1) (ht : (pc : Int) + dflt = (tgt : Int)) (k : RUN g nL p l e R s m args below meth c A cells slots Q ws tgt lv st) : RUN g nL p l e R s m args below meth c A cells slots Q ws pc lv (vi x :: st) := fun ls H locs h1 h2 h3 h4 => by
  refine lv_lookup C.1 C.2.1 hd hp (off := dflt) ?_ ht (k ls H locs h1 h2 h3 h4)
  rw [zI_toInt hv]
  generalize ps.toList = L at ho
  induction L with
  | nil => rfl
  | cons q L ih => simp only [Op.lookupswitch.offset]; rw [if_neg (by first | exact ho q List.mem_cons_self | exact fun z => ho q List.mem_cons_self z.symm)]; exact ih (fun r hr => ho r (List.mem_cons_of_mem _ hr))
theorem r_ext (C : CX g own cc nL ret A p s m args meth c) {a n : Nat} {f f' : Int → Int} {ws' : va_W} (q0 : Nat) (hq : ws[q0]? = some (a, aI g n f)) (h : ∀ k : Int, 0 ≤ k → k < n → f k = f' k) (hw : ws.set q0 (a, aI g n f') = ws') (k : RUN g nL p l e R s m args below meth c A cells slots Q ws' pc lv st) : RUN g nL p l e R s m args below meth c A cells slots Q ws pc lv st := fun ls H locs h1 h2 h3 h4 => by
  subst hw
  refine k ls H locs h1 (h2.set h3 hq ?_ (fun _ _ => rfl)) (h3.set hq) h4
  have e1 := h2 q0 _ hq
  show H[a]? = some (vp_cell g.2.2.1 (n, .inl (zR f')))
  rw [show vp_cell g.2.2.1 (n, .inl (zR f')) = vp_cell g.2.2.1 (n, .inl (zR f)) from ?_]
  · exact e1
  · simp only [vp_cell, arrV]
    congr 1
    congr 1
    funext j
    simp only [zR]
    rw [h j.val (by omega) (by omega)]
end
theorem zI_i2c {x : Int} (h : 0 ≤ x ∧ x ≤ 65535) : ((zI x).toUInt32 % 65536).toInt32 = zI x := by
  obtain ⟨n, rfl⟩ := Int.eq_ofNat_of_zero_le h.1
  rw [show zI (n : Int) = nI n from (zI_nat n).symm, pk_char, pk_tn (by omega), Nat.mod_eq_of_lt (by omega)]
theorem nar_c {x : Int} (h : 0 ≤ x ∧ x ≤ 65535) : vp_nar .char (zI x) = zI x := by
  rw [← zI_i2c h, pk_vc]
theorem nar_c2 {x : Int} (h : 0 ≤ x ∧ x ≤ 65535) : narrow .char (vi x) = vi x := by
  have := pk_nc (zI x)
  rw [zI_i2c h] at this
  exact this
theorem nz_n {x : Int} (h : x = 0 ∨ x = 1) : narrow .boolean (vi x) = vi x := by
  rcases h with rfl | rfl <;> rfl
theorem nz_f {x : Int} (h : x = 0 ∨ x = 1) : fits .boolean (vi x) = true := by
  rcases h with rfl | rfl <;> decide
theorem nar_z {x : Int} (h : x = 0 ∨ x = 1) : vp_nar .boolean (zI x) = zI x := by
  rcases h with rfl | rfl <;> rfl
section
variable {g : Gx} {own : String} {cc : ByteArray} {nL : Nat} {ret : Option FieldType} {p : Program} {l : Launch} {e : Env} {R : Room} {s : State} {m : MethodId} {args : Array Value} {below : List Frame} {meth : Method} {c : Code} {A : Nat → Prop} {cells slots : Nat} {Q : State → Prop} {ws : va_W} {pc : Nat} {lv : List (Nat × Value)} {st : List Value}
theorem gf_X0_9 (C : CX g RX0 cc nL ret A p s m args meth c) {a : Nat} {fs : List Value} {v : Value} (hd : decode cc pc = .ok (.getfield 9, 3)) (q0 : Nat) (hq : ws[q0]? = some (a, oB 0 fs)) (hv : fs[0]? = some v) (k : RUN g nL p l e R s m args below meth c A cells slots Q ws (pc + 3) lv (v :: st)) : RUN g nL p l e R s m args below meth c A cells slots Q ws pc lv (.ref a :: st) := r_get C (C' := RX0) (T := TX0) (N := 3) (ci := 0) (ref := RX0) inlX0 rfl 0 (by decide) (in_r4 (List.mem_of_getElem? (i := 22) rfl)) rfl hd q0 hq hv k
theorem pf_X0_9 (C : CX g RX0 cc nL ret A p s m args meth c) {a : Nat} {fs : List Value} {b : Nat} {ws' : va_W} (hin : meth.name = "<init>") (hd : decode cc pc = .ok (.putfield 9, 3)) (q0 : Nat) (hq : ws[q0]? = some (a, oB 0 fs)) (hlen : 0 < fs.length) (hw : ws.set q0 (a, oB 0 (fs.set 0 (.ref b))) = ws') (k : RUN g nL p l e R s m args below meth c A cells slots Q ws' (pc + 3) lv st) : RUN g nL p l e R s m args below meth c A cells slots Q ws pc lv (.ref b :: .ref a :: st) := r_putF (host := RX11) C (C' := RX0) (T := TX0) (N := 3) (ci := 0) (ref := RX0) (ty := (.array .int)) inlX0 tyX0 tyX0_ok nmX0 rfl 0 (by decide) (in_r4 (List.mem_of_getElem? (i := 22) rfl)) rfl rfl hin rfl rfl hd q0 hq hlen rfl rfl hw k
theorem gf_X0_15 (C : CX g RX0 cc nL ret A p s m args meth c) {a : Nat} {fs : List Value} {v : Value} (hd : decode cc pc = .ok (.getfield 15, 3)) (q0 : Nat) (hq : ws[q0]? = some (a, oB 0 fs)) (hv : fs[1]? = some v) (k : RUN g nL p l e R s m args below meth c A cells slots Q ws (pc + 3) lv (v :: st)) : RUN g nL p l e R s m args below meth c A cells slots Q ws pc lv (.ref a :: st) := r_get C (C' := RX0) (T := TX0) (N := 3) (ci := 0) (ref := RX0) inlX0 rfl 1 (by decide) (in_r4 (List.mem_of_getElem? (i := 23) rfl)) rfl hd q0 hq hv k
theorem pf_X0_15 (C : CX g RX0 cc nL ret A p s m args meth c) {a : Nat} {fs : List Value} {b : Nat} {ws' : va_W} (hin : meth.name = "<init>") (hd : decode cc pc = .ok (.putfield 15, 3)) (q0 : Nat) (hq : ws[q0]? = some (a, oB 0 fs)) (hlen : 1 < fs.length) (hw : ws.set q0 (a, oB 0 (fs.set 1 (.ref b))) = ws') (k : RUN g nL p l e R s m args below meth c A cells slots Q ws' (pc + 3) lv st) : RUN g nL p l e R s m args below meth c A cells slots Q ws pc lv (.ref b :: .ref a :: st) := r_putF (host := RX11) C (C' := RX0) (T := TX0) (N := 3) (ci := 0) (ref := RX0) (ty := (.array .int)) inlX0 tyX0 tyX0_ok nmX0 rfl 1 (by decide) (in_r4 (List.mem_of_getElem? (i := 23) rfl)) rfl rfl hin rfl rfl hd q0 hq hlen rfl rfl hw k
theorem gf_X0_18 (C : CX g RX0 cc nL ret A p s m args meth c) {a : Nat} {fs : List Value} {v : Value} (hd : decode cc pc = .ok (.getfield 18, 3)) (q0 : Nat) (hq : ws[q0]? = some (a, oB 0 fs)) (hv : fs[2]? = some v) (k : RUN g nL p l e R s m args below meth c A cells slots Q ws (pc + 3) lv (v :: st)) : RUN g nL p l e R s m args below meth c A cells slots Q ws pc lv (.ref a :: st) := r_get C (C' := RX0) (T := TX0) (N := 3) (ci := 0) (ref := RX0) inlX0 rfl 2 (by decide) (in_r5 (List.mem_of_getElem? (i := 0) rfl)) rfl hd q0 hq hv k
theorem pf_X0_18 (C : CX g RX0 cc nL ret A p s m args meth c) {a : Nat} {fs : List Value} {x : Int} {ws' : va_W} (hd : decode cc pc = .ok (.putfield 18, 3)) (q0 : Nat) (hq : ws[q0]? = some (a, oB 0 fs)) (hlen : 2 < fs.length) (hw : ws.set q0 (a, oB 0 (fs.set 2 (vi x))) = ws') (k : RUN g nL p l e R s m args below meth c A cells slots Q ws' (pc + 3) lv st) : RUN g nL p l e R s m args below meth c A cells slots Q ws pc lv (vi x :: .ref a :: st) := r_put (host := RX11) C (C' := RX0) (T := TX0) (N := 3) (ci := 0) (ref := RX0) (ty := .int) inlX0 tyX0 tyX0_ok nmX0 rfl 2 (by decide) (in_r5 (List.mem_of_getElem? (i := 0) rfl)) rfl rfl rfl hd q0 hq hlen (vp_nar_int _) rfl hw k
theorem gf_X1_11 (C : CX g RX1 cc nL ret A p s m args meth c) {a : Nat} {fs : List Value} {v : Value} (hd : decode cc pc = .ok (.getfield 11, 3)) (q0 : Nat) (hq : ws[q0]? = some (a, oB 1 fs)) (hv : fs[0]? = some v) (k : RUN g nL p l e R s m args below meth c A cells slots Q ws (pc + 3) lv (v :: st)) : RUN g nL p l e R s m args below meth c A cells slots Q ws pc lv (.ref a :: st) := r_get C (C' := RX1) (T := TX1) (N := 3) (ci := 1) (ref := RX1) inlX1 rfl 0 (by decide) (in_r5 (List.mem_of_getElem? (i := 4) rfl)) rfl hd q0 hq hv k
theorem pf_X1_11 (C : CX g RX1 cc nL ret A p s m args meth c) {a : Nat} {fs : List Value} {b : Nat} {ws' : va_W} (hin : meth.name = "<init>") (hd : decode cc pc = .ok (.putfield 11, 3)) (q0 : Nat) (hq : ws[q0]? = some (a, oB 1 fs)) (hlen : 0 < fs.length) (hw : ws.set q0 (a, oB 1 (fs.set 0 (.ref b))) = ws') (k : RUN g nL p l e R s m args below meth c A cells slots Q ws' (pc + 3) lv st) : RUN g nL p l e R s m args below meth c A cells slots Q ws pc lv (.ref b :: .ref a :: st) := r_putF (host := RX11) C (C' := RX1) (T := TX1) (N := 3) (ci := 1) (ref := RX1) (ty := (.array .int)) inlX1 tyX1 tyX1_ok nmX1 rfl 0 (by decide) (in_r5 (List.mem_of_getElem? (i := 4) rfl)) rfl rfl hin rfl rfl hd q0 hq hlen rfl rfl hw k
theorem gf_X1_15 (C : CX g RX1 cc nL ret A p s m args meth c) {a : Nat} {fs : List Value} {v : Value} (hd : decode cc pc = .ok (.getfield 15, 3)) (q0 : Nat) (hq : ws[q0]? = some (a, oB 1 fs)) (hv : fs[1]? = some v) (k : RUN g nL p l e R s m args below meth c A cells slots Q ws (pc + 3) lv (v :: st)) : RUN g nL p l e R s m args below meth c A cells slots Q ws pc lv (.ref a :: st) := r_get C (C' := RX1) (T := TX1) (N := 3) (ci := 1) (ref := RX1) inlX1 rfl 1 (by decide) (in_r5 (List.mem_of_getElem? (i := 5) rfl)) rfl hd q0 hq hv k
theorem pf_X1_15 (C : CX g RX1 cc nL ret A p s m args meth c) {a : Nat} {fs : List Value} {x : Int} {ws' : va_W} (hd : decode cc pc = .ok (.putfield 15, 3)) (q0 : Nat) (hq : ws[q0]? = some (a, oB 1 fs)) (hlen : 1 < fs.length) (hw : ws.set q0 (a, oB 1 (fs.set 1 (vi x))) = ws') (k : RUN g nL p l e R s m args below meth c A cells slots Q ws' (pc + 3) lv st) : RUN g nL p l e R s m args below meth c A cells slots Q ws pc lv (vi x :: .ref a :: st) := r_put (host := RX11) C (C' := RX1) (T := TX1) (N := 3) (ci := 1) (ref := RX1) (ty := .int) inlX1 tyX1 tyX1_ok nmX1 rfl 1 (by decide) (in_r5 (List.mem_of_getElem? (i := 5) rfl)) rfl rfl rfl hd q0 hq hlen (vp_nar_int _) rfl hw k
theorem gf_X1_19 (C : CX g RX1 cc nL ret A p s m args meth c) {a : Nat} {fs : List Value} {v : Value} (hd : decode cc pc = .ok (.getfield 19, 3)) (q0 : Nat) (hq : ws[q0]? = some (a, oB 1 fs)) (hv : fs[2]? = some v) (k : RUN g nL p l e R s m args below meth c A cells slots Q ws (pc + 3) lv (v :: st)) : RUN g nL p l e R s m args below meth c A cells slots Q ws pc lv (.ref a :: st) := r_get C (C' := RX1) (T := TX1) (N := 3) (ci := 1) (ref := RX1) inlX1 rfl 2 (by decide) (in_r5 (List.mem_of_getElem? (i := 6) rfl)) rfl hd q0 hq hv k
theorem pf_X1_19 (C : CX g RX1 cc nL ret A p s m args meth c) {a : Nat} {fs : List Value} {x : Int} {ws' : va_W} (hd : decode cc pc = .ok (.putfield 19, 3)) (q0 : Nat) (hq : ws[q0]? = some (a, oB 1 fs)) (hlen : 2 < fs.length) (hw : ws.set q0 (a, oB 1 (fs.set 2 (vi x))) = ws') (k : RUN g nL p l e R s m args below meth c A cells slots Q ws' (pc + 3) lv st) : RUN g nL p l e R s m args below meth c A cells slots Q ws pc lv (vi x :: .ref a :: st) := r_put (host := RX11) C (C' := RX1) (T := TX1) (N := 3) (ci := 1) (ref := RX1) (ty := .int) inlX1 tyX1 tyX1_ok nmX1 rfl 2 (by decide) (in_r5 (List.mem_of_getElem? (i := 6) rfl)) rfl rfl rfl hd q0 hq hlen (vp_nar_int _) rfl hw k
theorem gf_X1_26 (C : CX g RX1 cc nL ret A p s m args meth c) {a : Nat} {fs : List Value} {v : Value} (hd : decode cc pc = .ok (.getfield 26, 3)) (q0 : Nat) (hq : ws[q0]? = some (a, oB 6 fs)) (hv : fs[6]? = some v) (k : RUN g nL p l e R s m args below meth c A cells slots Q ws (pc + 3) lv (v :: st)) : RUN g nL p l e R s m args below meth c A cells slots Q ws pc lv (.ref a :: st) := r_getN (host := RX11) C (C' := RX7) (T := TX7) (N := 8) (ci := 6) (ref := RX7) inlX7 rfl 6 (by decide) (List.mem_of_getElem? (i := 16) rfl) rfl hd q0 hq hv k
theorem pf_X1_26 (C : CX g RX1 cc nL ret A p s m args meth c) {a : Nat} {fs : List Value} {x : Int} {ws' : va_W} (hd : decode cc pc = .ok (.putfield 26, 3)) (q0 : Nat) (hq : ws[q0]? = some (a, oB 6 fs)) (hlen : 6 < fs.length) (hw : ws.set q0 (a, oB 6 (fs.set 6 (vi x))) = ws') (k : RUN g nL p l e R s m args below meth c A cells slots Q ws' (pc + 3) lv st) : RUN g nL p l e R s m args below meth c A cells slots Q ws pc lv (vi x :: .ref a :: st) := r_putN (host := RX11) C (C' := RX7) (T := TX7) (N := 8) (ci := 6) (ref := RX7) (ty := .int) inlX7 tyX7 tyX7_ok nmX7 rfl 6 (by decide) (List.mem_of_getElem? (i := 16) rfl) rfl rfl rfl hd q0 hq hlen (vp_nar_int _) rfl hw k
theorem gf_X1_49 (C : CX g RX1 cc nL ret A p s m args meth c) {a : Nat} {fs : List Value} {v : Value} (hd : decode cc pc = .ok (.getfield 49, 3)) (q0 : Nat) (hq : ws[q0]? = some (a, oB 6 fs)) (hv : fs[0]? = some v) (k : RUN g nL p l e R s m args below meth c A cells slots Q ws (pc + 3) lv (v :: st)) : RUN g nL p l e R s m args below meth c A cells slots Q ws pc lv (.ref a :: st) := r_getN (host := RX11) C (C' := RX7) (T := TX7) (N := 8) (ci := 6) (ref := RX7) inlX7 rfl 0 (by decide) (List.mem_of_getElem? (i := 3) rfl) rfl hd q0 hq hv k
theorem pf_X1_49 (C : CX g RX1 cc nL ret A p s m args meth c) {a : Nat} {fs : List Value} {x : Int} {ws' : va_W} (hd : decode cc pc = .ok (.putfield 49, 3)) (q0 : Nat) (hq : ws[q0]? = some (a, oB 6 fs)) (hlen : 0 < fs.length) (hw : ws.set q0 (a, oB 6 (fs.set 0 (vi x))) = ws') (k : RUN g nL p l e R s m args below meth c A cells slots Q ws' (pc + 3) lv st) : RUN g nL p l e R s m args below meth c A cells slots Q ws pc lv (vi x :: .ref a :: st) := r_putN (host := RX11) C (C' := RX7) (T := TX7) (N := 8) (ci := 6) (ref := RX7) (ty := .int) inlX7 tyX7 tyX7_ok nmX7 rfl 0 (by decide) (List.mem_of_getElem? (i := 3) rfl) rfl rfl rfl hd q0 hq hlen (vp_nar_int _) rfl hw k
theorem gf_X1_50 (C : CX g RX1 cc nL ret A p s m args meth c) {a : Nat} {fs : List Value} {v : Value} (hd : decode cc pc = .ok (.getfield 50, 3)) (q0 : Nat) (hq : ws[q0]? = some (a, oB 6 fs)) (hv : fs[1]? = some v) (k : RUN g nL p l e R s m args below meth c A cells slots Q ws (pc + 3) lv (v :: st)) : RUN g nL p l e R s m args below meth c A cells slots Q ws pc lv (.ref a :: st) := r_getN (host := RX11) C (C' := RX7) (T := TX7) (N := 8) (ci := 6) (ref := RX7) inlX7 rfl 1 (by decide) (List.mem_of_getElem? (i := 7) rfl) rfl hd q0 hq hv k
theorem pf_X1_50 (C : CX g RX1 cc nL ret A p s m args meth c) {a : Nat} {fs : List Value} {x : Int} {ws' : va_W} (hd : decode cc pc = .ok (.putfield 50, 3)) (q0 : Nat) (hq : ws[q0]? = some (a, oB 6 fs)) (hlen : 1 < fs.length) (hw : ws.set q0 (a, oB 6 (fs.set 1 (vi x))) = ws') (k : RUN g nL p l e R s m args below meth c A cells slots Q ws' (pc + 3) lv st) : RUN g nL p l e R s m args below meth c A cells slots Q ws pc lv (vi x :: .ref a :: st) := r_putN (host := RX11) C (C' := RX7) (T := TX7) (N := 8) (ci := 6) (ref := RX7) (ty := .int) inlX7 tyX7 tyX7_ok nmX7 rfl 1 (by decide) (List.mem_of_getElem? (i := 7) rfl) rfl rfl rfl hd q0 hq hlen (vp_nar_int _) rfl hw k
theorem gf_X1_51 (C : CX g RX1 cc nL ret A p s m args meth c) {a : Nat} {fs : List Value} {v : Value} (hd : decode cc pc = .ok (.getfield 51, 3)) (q0 : Nat) (hq : ws[q0]? = some (a, oB 6 fs)) (hv : fs[7]? = some v) (k : RUN g nL p l e R s m args below meth c A cells slots Q ws (pc + 3) lv (v :: st)) : RUN g nL p l e R s m args below meth c A cells slots Q ws pc lv (.ref a :: st) := r_getN (host := RX11) C (C' := RX7) (T := TX7) (N := 8) (ci := 6) (ref := RX7) inlX7 rfl 7 (by decide) (List.mem_of_getElem? (i := 19) rfl) rfl hd q0 hq hv k
theorem pf_X1_51 (C : CX g RX1 cc nL ret A p s m args meth c) {a : Nat} {fs : List Value} {x : Int} {ws' : va_W} (hd : decode cc pc = .ok (.putfield 51, 3)) (q0 : Nat) (hq : ws[q0]? = some (a, oB 6 fs)) (hlen : 7 < fs.length) (hw : ws.set q0 (a, oB 6 (fs.set 7 (vi x))) = ws') (k : RUN g nL p l e R s m args below meth c A cells slots Q ws' (pc + 3) lv st) : RUN g nL p l e R s m args below meth c A cells slots Q ws pc lv (vi x :: .ref a :: st) := r_putN (host := RX11) C (C' := RX7) (T := TX7) (N := 8) (ci := 6) (ref := RX7) (ty := .int) inlX7 tyX7 tyX7_ok nmX7 rfl 7 (by decide) (List.mem_of_getElem? (i := 19) rfl) rfl rfl rfl hd q0 hq hlen (vp_nar_int _) rfl hw k
theorem gf_X10_9 (C : CX g RX10 cc nL ret A p s m args meth c) {a : Nat} {fs : List Value} {v : Value} (hd : decode cc pc = .ok (.getfield 9, 3)) (q0 : Nat) (hq : ws[q0]? = some (a, oB 9 fs)) (hv : fs[0]? = some v) (k : RUN g nL p l e R s m args below meth c A cells slots Q ws (pc + 3) lv (v :: st)) : RUN g nL p l e R s m args below meth c A cells slots Q ws pc lv (.ref a :: st) := r_get C (C' := RX10) (T := TX10) (N := 1) (ci := 9) (ref := RX10) inlX10 rfl 0 (by decide) (in_r6 (List.mem_of_getElem? (i := 18) rfl)) rfl hd q0 hq hv k
theorem pf_X10_9 (C : CX g RX10 cc nL ret A p s m args meth c) {a : Nat} {fs : List Value} {b : Nat} {ws' : va_W} (hin : meth.name = "<init>") (hd : decode cc pc = .ok (.putfield 9, 3)) (q0 : Nat) (hq : ws[q0]? = some (a, oB 9 fs)) (hlen : 0 < fs.length) (hw : ws.set q0 (a, oB 9 (fs.set 0 (.ref b))) = ws') (k : RUN g nL p l e R s m args below meth c A cells slots Q ws' (pc + 3) lv st) : RUN g nL p l e R s m args below meth c A cells slots Q ws pc lv (.ref b :: .ref a :: st) := r_putF (host := RX11) C (C' := RX10) (T := TX10) (N := 1) (ci := 9) (ref := RX10) (ty := (.array .int)) inlX10 tyX10 tyX10_ok nmX10 rfl 0 (by decide) (in_r6 (List.mem_of_getElem? (i := 18) rfl)) rfl rfl hin rfl rfl hd q0 hq hlen rfl rfl hw k
theorem gf_X10_25 (C : CX g RX10 cc nL ret A p s m args meth c) {a : Nat} {fs : List Value} {v : Value} (hd : decode cc pc = .ok (.getfield 25, 3)) (q0 : Nat) (hq : ws[q0]? = some (a, oB 8 fs)) (hv : fs[2]? = some v) (k : RUN g nL p l e R s m args below meth c A cells slots Q ws (pc + 3) lv (v :: st)) : RUN g nL p l e R s m args below meth c A cells slots Q ws pc lv (.ref a :: st) := r_getN (host := RX11) C (C' := RX9) (T := TX9) (N := 7) (ci := 8) (ref := RX9) inlX9 rfl 2 (by decide) (List.mem_of_getElem? (i := 39) rfl) rfl hd q0 hq hv k
theorem pf_X10_25 (C : CX g RX10 cc nL ret A p s m args meth c) {a : Nat} {fs : List Value} {x : Int} {ws' : va_W} (hd : decode cc pc = .ok (.putfield 25, 3)) (q0 : Nat) (hq : ws[q0]? = some (a, oB 8 fs)) (hlen : 2 < fs.length) (hw : ws.set q0 (a, oB 8 (fs.set 2 (vi x))) = ws') (k : RUN g nL p l e R s m args below meth c A cells slots Q ws' (pc + 3) lv st) : RUN g nL p l e R s m args below meth c A cells slots Q ws pc lv (vi x :: .ref a :: st) := r_putN (host := RX11) C (C' := RX9) (T := TX9) (N := 7) (ci := 8) (ref := RX9) (ty := .int) inlX9 tyX9 tyX9_ok nmX9 rfl 2 (by decide) (List.mem_of_getElem? (i := 39) rfl) rfl rfl rfl hd q0 hq hlen (vp_nar_int _) rfl hw k
theorem gf_X10_31 (C : CX g RX10 cc nL ret A p s m args meth c) {a : Nat} {fs : List Value} {v : Value} (hd : decode cc pc = .ok (.getfield 31, 3)) (q0 : Nat) (hq : ws[q0]? = some (a, oB 8 fs)) (hv : fs[0]? = some v) (k : RUN g nL p l e R s m args below meth c A cells slots Q ws (pc + 3) lv (v :: st)) : RUN g nL p l e R s m args below meth c A cells slots Q ws pc lv (.ref a :: st) := r_getN (host := RX11) C (C' := RX9) (T := TX9) (N := 7) (ci := 8) (ref := RX9) inlX9 rfl 0 (by decide) (List.mem_of_getElem? (i := 33) rfl) rfl hd q0 hq hv k
theorem gf_X10_34 (C : CX g RX10 cc nL ret A p s m args meth c) {a : Nat} {fs : List Value} {v : Value} (hd : decode cc pc = .ok (.getfield 34, 3)) (q0 : Nat) (hq : ws[q0]? = some (a, oB 8 fs)) (hv : fs[1]? = some v) (k : RUN g nL p l e R s m args below meth c A cells slots Q ws (pc + 3) lv (v :: st)) : RUN g nL p l e R s m args below meth c A cells slots Q ws pc lv (.ref a :: st) := r_getN (host := RX11) C (C' := RX9) (T := TX9) (N := 7) (ci := 8) (ref := RX9) inlX9 rfl 1 (by decide) (List.mem_of_getElem? (i := 36) rfl) rfl hd q0 hq hv k
theorem gf_X11_10 (C : CX g RX11 cc nL ret A p s m args meth c) {a : Nat} {fs : List Value} {v : Value} (hd : decode cc pc = .ok (.getfield 10, 3)) (q0 : Nat) (hq : ws[q0]? = some (a, oB 10 fs)) (hv : fs[0]? = some v) (k : RUN g nL p l e R s m args below meth c A cells slots Q ws (pc + 3) lv (v :: st)) : RUN g nL p l e R s m args below meth c A cells slots Q ws pc lv (.ref a :: st) := r_get C (C' := RX11) (T := TX11) (N := 15) (ci := 10) (ref := RX11) inlX11 rfl 0 (by decide) (in_r1 (List.mem_of_getElem? (i := 15) rfl)) rfl hd q0 hq hv k
theorem pf_X11_10 (C : CX g RX11 cc nL ret A p s m args meth c) {a : Nat} {fs : List Value} {b : Nat} {ws' : va_W} (hin : meth.name = "<init>") (hd : decode cc pc = .ok (.putfield 10, 3)) (q0 : Nat) (hq : ws[q0]? = some (a, oB 10 fs)) (hlen : 0 < fs.length) (hw : ws.set q0 (a, oB 10 (fs.set 0 (.ref b))) = ws') (k : RUN g nL p l e R s m args below meth c A cells slots Q ws' (pc + 3) lv st) : RUN g nL p l e R s m args below meth c A cells slots Q ws pc lv (.ref b :: .ref a :: st) := r_putF (host := RX11) C (C' := RX11) (T := TX11) (N := 15) (ci := 10) (ref := RX11) (ty := (.object "EdgeStencil$Script")) inlX11 tyX11 tyX11_ok nmX11 rfl 0 (by decide) (in_r1 (List.mem_of_getElem? (i := 15) rfl)) rfl rfl hin rfl rfl hd q0 hq hlen rfl rfl hw k
theorem gf_X11_19 (C : CX g RX11 cc nL ret A p s m args meth c) {a : Nat} {fs : List Value} {v : Value} (hd : decode cc pc = .ok (.getfield 19, 3)) (q0 : Nat) (hq : ws[q0]? = some (a, oB 10 fs)) (hv : fs[1]? = some v) (k : RUN g nL p l e R s m args below meth c A cells slots Q ws (pc + 3) lv (v :: st)) : RUN g nL p l e R s m args below meth c A cells slots Q ws pc lv (.ref a :: st) := r_get C (C' := RX11) (T := TX11) (N := 15) (ci := 10) (ref := RX11) inlX11 rfl 1 (by decide) (in_r1 (List.mem_of_getElem? (i := 19) rfl)) rfl hd q0 hq hv k
theorem pf_X11_19 (C : CX g RX11 cc nL ret A p s m args meth c) {a : Nat} {fs : List Value} {b : Nat} {ws' : va_W} (hin : meth.name = "<init>") (hd : decode cc pc = .ok (.putfield 19, 3)) (q0 : Nat) (hq : ws[q0]? = some (a, oB 10 fs)) (hlen : 1 < fs.length) (hw : ws.set q0 (a, oB 10 (fs.set 1 (.ref b))) = ws') (k : RUN g nL p l e R s m args below meth c A cells slots Q ws' (pc + 3) lv st) : RUN g nL p l e R s m args below meth c A cells slots Q ws pc lv (.ref b :: .ref a :: st) := r_putF (host := RX11) C (C' := RX11) (T := TX11) (N := 15) (ci := 10) (ref := RX11) (ty := (.object "EdgeStencil$Reader")) inlX11 tyX11 tyX11_ok nmX11 rfl 1 (by decide) (in_r1 (List.mem_of_getElem? (i := 19) rfl)) rfl rfl hin rfl rfl hd q0 hq hlen rfl rfl hw k
theorem gf_X11_26 (C : CX g RX11 cc nL ret A p s m args meth c) {a : Nat} {fs : List Value} {v : Value} (hd : decode cc pc = .ok (.getfield 26, 3)) (q0 : Nat) (hq : ws[q0]? = some (a, oB 10 fs)) (hv : fs[2]? = some v) (k : RUN g nL p l e R s m args below meth c A cells slots Q ws (pc + 3) lv (v :: st)) : RUN g nL p l e R s m args below meth c A cells slots Q ws pc lv (.ref a :: st) := r_get C (C' := RX11) (T := TX11) (N := 15) (ci := 10) (ref := RX11) inlX11 rfl 2 (by decide) (in_r1 (List.mem_of_getElem? (i := 23) rfl)) rfl hd q0 hq hv k
theorem pf_X11_26 (C : CX g RX11 cc nL ret A p s m args meth c) {a : Nat} {fs : List Value} {b : Nat} {ws' : va_W} (hin : meth.name = "<init>") (hd : decode cc pc = .ok (.putfield 26, 3)) (q0 : Nat) (hq : ws[q0]? = some (a, oB 10 fs)) (hlen : 2 < fs.length) (hw : ws.set q0 (a, oB 10 (fs.set 2 (.ref b))) = ws') (k : RUN g nL p l e R s m args below meth c A cells slots Q ws' (pc + 3) lv st) : RUN g nL p l e R s m args below meth c A cells slots Q ws pc lv (.ref b :: .ref a :: st) := r_putF (host := RX11) C (C' := RX11) (T := TX11) (N := 15) (ci := 10) (ref := RX11) (ty := (.object "EdgeStencil$Scene")) inlX11 tyX11 tyX11_ok nmX11 rfl 2 (by decide) (in_r1 (List.mem_of_getElem? (i := 23) rfl)) rfl rfl hin rfl rfl hd q0 hq hlen rfl rfl hw k
theorem gf_X11_33 (C : CX g RX11 cc nL ret A p s m args meth c) {a : Nat} {fs : List Value} {v : Value} (hd : decode cc pc = .ok (.getfield 33, 3)) (q0 : Nat) (hq : ws[q0]? = some (a, oB 10 fs)) (hv : fs[3]? = some v) (k : RUN g nL p l e R s m args below meth c A cells slots Q ws (pc + 3) lv (v :: st)) : RUN g nL p l e R s m args below meth c A cells slots Q ws pc lv (.ref a :: st) := r_get C (C' := RX11) (T := TX11) (N := 15) (ci := 10) (ref := RX11) inlX11 rfl 3 (by decide) (in_r2 (List.mem_of_getElem? (i := 3) rfl)) rfl hd q0 hq hv k
theorem pf_X11_33 (C : CX g RX11 cc nL ret A p s m args meth c) {a : Nat} {fs : List Value} {b : Nat} {ws' : va_W} (hin : meth.name = "<init>") (hd : decode cc pc = .ok (.putfield 33, 3)) (q0 : Nat) (hq : ws[q0]? = some (a, oB 10 fs)) (hlen : 3 < fs.length) (hw : ws.set q0 (a, oB 10 (fs.set 3 (.ref b))) = ws') (k : RUN g nL p l e R s m args below meth c A cells slots Q ws' (pc + 3) lv st) : RUN g nL p l e R s m args below meth c A cells slots Q ws pc lv (.ref b :: .ref a :: st) := r_putF (host := RX11) C (C' := RX11) (T := TX11) (N := 15) (ci := 10) (ref := RX11) (ty := (.object "EdgeStencil$History")) inlX11 tyX11 tyX11_ok nmX11 rfl 3 (by decide) (in_r2 (List.mem_of_getElem? (i := 3) rfl)) rfl rfl hin rfl rfl hd q0 hq hlen rfl rfl hw k
theorem gf_X11_40 (C : CX g RX11 cc nL ret A p s m args meth c) {a : Nat} {fs : List Value} {v : Value} (hd : decode cc pc = .ok (.getfield 40, 3)) (q0 : Nat) (hq : ws[q0]? = some (a, oB 10 fs)) (hv : fs[4]? = some v) (k : RUN g nL p l e R s m args below meth c A cells slots Q ws (pc + 3) lv (v :: st)) : RUN g nL p l e R s m args below meth c A cells slots Q ws pc lv (.ref a :: st) := r_get C (C' := RX11) (T := TX11) (N := 15) (ci := 10) (ref := RX11) inlX11 rfl 4 (by decide) (in_r2 (List.mem_of_getElem? (i := 7) rfl)) rfl hd q0 hq hv k
theorem pf_X11_40 (C : CX g RX11 cc nL ret A p s m args meth c) {a : Nat} {fs : List Value} {b : Nat} {ws' : va_W} (hin : meth.name = "<init>") (hd : decode cc pc = .ok (.putfield 40, 3)) (q0 : Nat) (hq : ws[q0]? = some (a, oB 10 fs)) (hlen : 4 < fs.length) (hw : ws.set q0 (a, oB 10 (fs.set 4 (.ref b))) = ws') (k : RUN g nL p l e R s m args below meth c A cells slots Q ws' (pc + 3) lv st) : RUN g nL p l e R s m args below meth c A cells slots Q ws pc lv (.ref b :: .ref a :: st) := r_putF (host := RX11) C (C' := RX11) (T := TX11) (N := 15) (ci := 10) (ref := RX11) (ty := (.object "EdgeStencil$Book")) inlX11 tyX11 tyX11_ok nmX11 rfl 4 (by decide) (in_r2 (List.mem_of_getElem? (i := 7) rfl)) rfl rfl hin rfl rfl hd q0 hq hlen rfl rfl hw k
theorem gf_X11_47 (C : CX g RX11 cc nL ret A p s m args meth c) {a : Nat} {fs : List Value} {v : Value} (hd : decode cc pc = .ok (.getfield 47, 3)) (q0 : Nat) (hq : ws[q0]? = some (a, oB 10 fs)) (hv : fs[5]? = some v) (k : RUN g nL p l e R s m args below meth c A cells slots Q ws (pc + 3) lv (v :: st)) : RUN g nL p l e R s m args below meth c A cells slots Q ws pc lv (.ref a :: st) := r_get C (C' := RX11) (T := TX11) (N := 15) (ci := 10) (ref := RX11) inlX11 rfl 5 (by decide) (in_r2 (List.mem_of_getElem? (i := 11) rfl)) rfl hd q0 hq hv k
theorem pf_X11_47 (C : CX g RX11 cc nL ret A p s m args meth c) {a : Nat} {fs : List Value} {b : Nat} {ws' : va_W} (hin : meth.name = "<init>") (hd : decode cc pc = .ok (.putfield 47, 3)) (q0 : Nat) (hq : ws[q0]? = some (a, oB 10 fs)) (hlen : 5 < fs.length) (hw : ws.set q0 (a, oB 10 (fs.set 5 (.ref b))) = ws') (k : RUN g nL p l e R s m args below meth c A cells slots Q ws' (pc + 3) lv st) : RUN g nL p l e R s m args below meth c A cells slots Q ws pc lv (.ref b :: .ref a :: st) := r_putF (host := RX11) C (C' := RX11) (T := TX11) (N := 15) (ci := 10) (ref := RX11) (ty := (.object "EdgeStencil$Field")) inlX11 tyX11 tyX11_ok nmX11 rfl 5 (by decide) (in_r2 (List.mem_of_getElem? (i := 11) rfl)) rfl rfl hin rfl rfl hd q0 hq hlen rfl rfl hw k
theorem gf_X11_54 (C : CX g RX11 cc nL ret A p s m args meth c) {a : Nat} {fs : List Value} {v : Value} (hd : decode cc pc = .ok (.getfield 54, 3)) (q0 : Nat) (hq : ws[q0]? = some (a, oB 10 fs)) (hv : fs[6]? = some v) (k : RUN g nL p l e R s m args below meth c A cells slots Q ws (pc + 3) lv (v :: st)) : RUN g nL p l e R s m args below meth c A cells slots Q ws pc lv (.ref a :: st) := r_get C (C' := RX11) (T := TX11) (N := 15) (ci := 10) (ref := RX11) inlX11 rfl 6 (by decide) (in_r2 (List.mem_of_getElem? (i := 15) rfl)) rfl hd q0 hq hv k
theorem pf_X11_54 (C : CX g RX11 cc nL ret A p s m args meth c) {a : Nat} {fs : List Value} {b : Nat} {ws' : va_W} (hin : meth.name = "<init>") (hd : decode cc pc = .ok (.putfield 54, 3)) (q0 : Nat) (hq : ws[q0]? = some (a, oB 10 fs)) (hlen : 6 < fs.length) (hw : ws.set q0 (a, oB 10 (fs.set 6 (.ref b))) = ws') (k : RUN g nL p l e R s m args below meth c A cells slots Q ws' (pc + 3) lv st) : RUN g nL p l e R s m args below meth c A cells slots Q ws pc lv (.ref b :: .ref a :: st) := r_putF (host := RX11) C (C' := RX11) (T := TX11) (N := 15) (ci := 10) (ref := RX11) (ty := (.object "EdgeStencil$Ranking")) inlX11 tyX11 tyX11_ok nmX11 rfl 6 (by decide) (in_r2 (List.mem_of_getElem? (i := 15) rfl)) rfl rfl hin rfl rfl hd q0 hq hlen rfl rfl hw k
theorem gf_X11_61 (C : CX g RX11 cc nL ret A p s m args meth c) {a : Nat} {fs : List Value} {v : Value} (hd : decode cc pc = .ok (.getfield 61, 3)) (q0 : Nat) (hq : ws[q0]? = some (a, oB 10 fs)) (hv : fs[7]? = some v) (k : RUN g nL p l e R s m args below meth c A cells slots Q ws (pc + 3) lv (v :: st)) : RUN g nL p l e R s m args below meth c A cells slots Q ws pc lv (.ref a :: st) := r_get C (C' := RX11) (T := TX11) (N := 15) (ci := 10) (ref := RX11) inlX11 rfl 7 (by decide) (in_r2 (List.mem_of_getElem? (i := 19) rfl)) rfl hd q0 hq hv k
theorem pf_X11_61 (C : CX g RX11 cc nL ret A p s m args meth c) {a : Nat} {fs : List Value} {b : Nat} {ws' : va_W} (hin : meth.name = "<init>") (hd : decode cc pc = .ok (.putfield 61, 3)) (q0 : Nat) (hq : ws[q0]? = some (a, oB 10 fs)) (hlen : 7 < fs.length) (hw : ws.set q0 (a, oB 10 (fs.set 7 (.ref b))) = ws') (k : RUN g nL p l e R s m args below meth c A cells slots Q ws' (pc + 3) lv st) : RUN g nL p l e R s m args below meth c A cells slots Q ws pc lv (.ref b :: .ref a :: st) := r_putF (host := RX11) C (C' := RX11) (T := TX11) (N := 15) (ci := 10) (ref := RX11) (ty := (.object "EdgeStencil$Shape")) inlX11 tyX11 tyX11_ok nmX11 rfl 7 (by decide) (in_r2 (List.mem_of_getElem? (i := 19) rfl)) rfl rfl hin rfl rfl hd q0 hq hlen rfl rfl hw k
theorem gf_X11_68 (C : CX g RX11 cc nL ret A p s m args meth c) {a : Nat} {fs : List Value} {v : Value} (hd : decode cc pc = .ok (.getfield 68, 3)) (q0 : Nat) (hq : ws[q0]? = some (a, oB 10 fs)) (hv : fs[8]? = some v) (k : RUN g nL p l e R s m args below meth c A cells slots Q ws (pc + 3) lv (v :: st)) : RUN g nL p l e R s m args below meth c A cells slots Q ws pc lv (.ref a :: st) := r_get C (C' := RX11) (T := TX11) (N := 15) (ci := 10) (ref := RX11) inlX11 rfl 8 (by decide) (in_r2 (List.mem_of_getElem? (i := 23) rfl)) rfl hd q0 hq hv k
theorem pf_X11_68 (C : CX g RX11 cc nL ret A p s m args meth c) {a : Nat} {fs : List Value} {b : Nat} {ws' : va_W} (hin : meth.name = "<init>") (hd : decode cc pc = .ok (.putfield 68, 3)) (q0 : Nat) (hq : ws[q0]? = some (a, oB 10 fs)) (hlen : 8 < fs.length) (hw : ws.set q0 (a, oB 10 (fs.set 8 (.ref b))) = ws') (k : RUN g nL p l e R s m args below meth c A cells slots Q ws' (pc + 3) lv st) : RUN g nL p l e R s m args below meth c A cells slots Q ws pc lv (.ref b :: .ref a :: st) := r_putF (host := RX11) C (C' := RX11) (T := TX11) (N := 15) (ci := 10) (ref := RX11) (ty := (.object "EdgeStencil$Fit")) inlX11 tyX11 tyX11_ok nmX11 rfl 8 (by decide) (in_r2 (List.mem_of_getElem? (i := 23) rfl)) rfl rfl hin rfl rfl hd q0 hq hlen rfl rfl hw k
theorem gf_X11_75 (C : CX g RX11 cc nL ret A p s m args meth c) {a : Nat} {fs : List Value} {v : Value} (hd : decode cc pc = .ok (.getfield 75, 3)) (q0 : Nat) (hq : ws[q0]? = some (a, oB 10 fs)) (hv : fs[9]? = some v) (k : RUN g nL p l e R s m args below meth c A cells slots Q ws (pc + 3) lv (v :: st)) : RUN g nL p l e R s m args below meth c A cells slots Q ws pc lv (.ref a :: st) := r_get C (C' := RX11) (T := TX11) (N := 15) (ci := 10) (ref := RX11) inlX11 rfl 9 (by decide) (in_r3 (List.mem_of_getElem? (i := 3) rfl)) rfl hd q0 hq hv k
theorem pf_X11_75 (C : CX g RX11 cc nL ret A p s m args meth c) {a : Nat} {fs : List Value} {b : Nat} {ws' : va_W} (hin : meth.name = "<init>") (hd : decode cc pc = .ok (.putfield 75, 3)) (q0 : Nat) (hq : ws[q0]? = some (a, oB 10 fs)) (hlen : 9 < fs.length) (hw : ws.set q0 (a, oB 10 (fs.set 9 (.ref b))) = ws') (k : RUN g nL p l e R s m args below meth c A cells slots Q ws' (pc + 3) lv st) : RUN g nL p l e R s m args below meth c A cells slots Q ws pc lv (.ref b :: .ref a :: st) := r_putF (host := RX11) C (C' := RX11) (T := TX11) (N := 15) (ci := 10) (ref := RX11) (ty := (.object "EdgeStencil$Told")) inlX11 tyX11 tyX11_ok nmX11 rfl 9 (by decide) (in_r3 (List.mem_of_getElem? (i := 3) rfl)) rfl rfl hin rfl rfl hd q0 hq hlen rfl rfl hw k
theorem gf_X11_79 (C : CX g RX11 cc nL ret A p s m args meth c) {a : Nat} {fs : List Value} {v : Value} (hd : decode cc pc = .ok (.getfield 79, 3)) (q0 : Nat) (hq : ws[q0]? = some (a, oB 10 fs)) (hv : fs[10]? = some v) (k : RUN g nL p l e R s m args below meth c A cells slots Q ws (pc + 3) lv (v :: st)) : RUN g nL p l e R s m args below meth c A cells slots Q ws pc lv (.ref a :: st) := r_get C (C' := RX11) (T := TX11) (N := 15) (ci := 10) (ref := RX11) inlX11 rfl 10 (by decide) (in_r3 (List.mem_of_getElem? (i := 4) rfl)) rfl hd q0 hq hv k
theorem pf_X11_79 (C : CX g RX11 cc nL ret A p s m args meth c) {a : Nat} {fs : List Value} {x : Int} {ws' : va_W} (hd : decode cc pc = .ok (.putfield 79, 3)) (q0 : Nat) (hq : ws[q0]? = some (a, oB 10 fs)) (hlen : 10 < fs.length) (hw : ws.set q0 (a, oB 10 (fs.set 10 (vi x))) = ws') (k : RUN g nL p l e R s m args below meth c A cells slots Q ws' (pc + 3) lv st) : RUN g nL p l e R s m args below meth c A cells slots Q ws pc lv (vi x :: .ref a :: st) := r_put (host := RX11) C (C' := RX11) (T := TX11) (N := 15) (ci := 10) (ref := RX11) (ty := .int) inlX11 tyX11 tyX11_ok nmX11 rfl 10 (by decide) (in_r3 (List.mem_of_getElem? (i := 4) rfl)) rfl rfl rfl hd q0 hq hlen (vp_nar_int _) rfl hw k
theorem gf_X11_83 (C : CX g RX11 cc nL ret A p s m args meth c) {a : Nat} {fs : List Value} {v : Value} (hd : decode cc pc = .ok (.getfield 83, 3)) (q0 : Nat) (hq : ws[q0]? = some (a, oB 10 fs)) (hv : fs[11]? = some v) (k : RUN g nL p l e R s m args below meth c A cells slots Q ws (pc + 3) lv (v :: st)) : RUN g nL p l e R s m args below meth c A cells slots Q ws pc lv (.ref a :: st) := r_get C (C' := RX11) (T := TX11) (N := 15) (ci := 10) (ref := RX11) inlX11 rfl 11 (by decide) (in_r3 (List.mem_of_getElem? (i := 5) rfl)) rfl hd q0 hq hv k
theorem pf_X11_83 (C : CX g RX11 cc nL ret A p s m args meth c) {a : Nat} {fs : List Value} {x : Int} {ws' : va_W} (hd : decode cc pc = .ok (.putfield 83, 3)) (q0 : Nat) (hq : ws[q0]? = some (a, oB 10 fs)) (hlen : 11 < fs.length) (hw : ws.set q0 (a, oB 10 (fs.set 11 (vi x))) = ws') (k : RUN g nL p l e R s m args below meth c A cells slots Q ws' (pc + 3) lv st) : RUN g nL p l e R s m args below meth c A cells slots Q ws pc lv (vi x :: .ref a :: st) := r_put (host := RX11) C (C' := RX11) (T := TX11) (N := 15) (ci := 10) (ref := RX11) (ty := .int) inlX11 tyX11 tyX11_ok nmX11 rfl 11 (by decide) (in_r3 (List.mem_of_getElem? (i := 5) rfl)) rfl rfl rfl hd q0 hq hlen (vp_nar_int _) rfl hw k
theorem gf_X11_86 (C : CX g RX11 cc nL ret A p s m args meth c) {a : Nat} {fs : List Value} {v : Value} (hd : decode cc pc = .ok (.getfield 86, 3)) (q0 : Nat) (hq : ws[q0]? = some (a, oB 10 fs)) (hv : fs[12]? = some v) (k : RUN g nL p l e R s m args below meth c A cells slots Q ws (pc + 3) lv (v :: st)) : RUN g nL p l e R s m args below meth c A cells slots Q ws pc lv (.ref a :: st) := r_get C (C' := RX11) (T := TX11) (N := 15) (ci := 10) (ref := RX11) inlX11 rfl 12 (by decide) (in_r3 (List.mem_of_getElem? (i := 6) rfl)) rfl hd q0 hq hv k
theorem pf_X11_86 (C : CX g RX11 cc nL ret A p s m args meth c) {a : Nat} {fs : List Value} {x : Int} {ws' : va_W} (hd : decode cc pc = .ok (.putfield 86, 3)) (q0 : Nat) (hq : ws[q0]? = some (a, oB 10 fs)) (hlen : 12 < fs.length) (hw : ws.set q0 (a, oB 10 (fs.set 12 (vi x))) = ws') (k : RUN g nL p l e R s m args below meth c A cells slots Q ws' (pc + 3) lv st) : RUN g nL p l e R s m args below meth c A cells slots Q ws pc lv (vi x :: .ref a :: st) := r_put (host := RX11) C (C' := RX11) (T := TX11) (N := 15) (ci := 10) (ref := RX11) (ty := .int) inlX11 tyX11 tyX11_ok nmX11 rfl 12 (by decide) (in_r3 (List.mem_of_getElem? (i := 6) rfl)) rfl rfl rfl hd q0 hq hlen (vp_nar_int _) rfl hw k
theorem gf_X11_89 (C : CX g RX11 cc nL ret A p s m args meth c) {a : Nat} {fs : List Value} {v : Value} (hd : decode cc pc = .ok (.getfield 89, 3)) (q0 : Nat) (hq : ws[q0]? = some (a, oB 10 fs)) (hv : fs[13]? = some v) (k : RUN g nL p l e R s m args below meth c A cells slots Q ws (pc + 3) lv (v :: st)) : RUN g nL p l e R s m args below meth c A cells slots Q ws pc lv (.ref a :: st) := r_get C (C' := RX11) (T := TX11) (N := 15) (ci := 10) (ref := RX11) inlX11 rfl 13 (by decide) (in_r3 (List.mem_of_getElem? (i := 7) rfl)) rfl hd q0 hq hv k
theorem pf_X11_89 (C : CX g RX11 cc nL ret A p s m args meth c) {a : Nat} {fs : List Value} {x : Int} {ws' : va_W} (hd : decode cc pc = .ok (.putfield 89, 3)) (q0 : Nat) (hq : ws[q0]? = some (a, oB 10 fs)) (hlen : 13 < fs.length) (hna : narrow .boolean (vi x) = vi x) (hfi : fits .boolean (vi x) = true) (hw : ws.set q0 (a, oB 10 (fs.set 13 (vi x))) = ws') (k : RUN g nL p l e R s m args below meth c A cells slots Q ws' (pc + 3) lv st) : RUN g nL p l e R s m args below meth c A cells slots Q ws pc lv (vi x :: .ref a :: st) := r_put (host := RX11) C (C' := RX11) (T := TX11) (N := 15) (ci := 10) (ref := RX11) (ty := .boolean) inlX11 tyX11 tyX11_ok nmX11 rfl 13 (by decide) (in_r3 (List.mem_of_getElem? (i := 7) rfl)) rfl rfl rfl hd q0 hq hlen hna hfi hw k
theorem gf_X11_93 (C : CX g RX11 cc nL ret A p s m args meth c) {a : Nat} {fs : List Value} {v : Value} (hd : decode cc pc = .ok (.getfield 93, 3)) (q0 : Nat) (hq : ws[q0]? = some (a, oB 10 fs)) (hv : fs[14]? = some v) (k : RUN g nL p l e R s m args below meth c A cells slots Q ws (pc + 3) lv (v :: st)) : RUN g nL p l e R s m args below meth c A cells slots Q ws pc lv (.ref a :: st) := r_get C (C' := RX11) (T := TX11) (N := 15) (ci := 10) (ref := RX11) inlX11 rfl 14 (by decide) (in_r3 (List.mem_of_getElem? (i := 8) rfl)) rfl hd q0 hq hv k
theorem pf_X11_93 (C : CX g RX11 cc nL ret A p s m args meth c) {a : Nat} {fs : List Value} {x : Int} {ws' : va_W} (hd : decode cc pc = .ok (.putfield 93, 3)) (q0 : Nat) (hq : ws[q0]? = some (a, oB 10 fs)) (hlen : 14 < fs.length) (hna : narrow .boolean (vi x) = vi x) (hfi : fits .boolean (vi x) = true) (hw : ws.set q0 (a, oB 10 (fs.set 14 (vi x))) = ws') (k : RUN g nL p l e R s m args below meth c A cells slots Q ws' (pc + 3) lv st) : RUN g nL p l e R s m args below meth c A cells slots Q ws pc lv (vi x :: .ref a :: st) := r_put (host := RX11) C (C' := RX11) (T := TX11) (N := 15) (ci := 10) (ref := RX11) (ty := .boolean) inlX11 tyX11 tyX11_ok nmX11 rfl 14 (by decide) (in_r3 (List.mem_of_getElem? (i := 8) rfl)) rfl rfl rfl hd q0 hq hlen hna hfi hw k
theorem gf_X11_116 (C : CX g RX11 cc nL ret A p s m args meth c) {a : Nat} {fs : List Value} {v : Value} (hd : decode cc pc = .ok (.getfield 116, 3)) (q0 : Nat) (hq : ws[q0]? = some (a, oB 5 fs)) (hv : fs[0]? = some v) (k : RUN g nL p l e R s m args below meth c A cells slots Q ws (pc + 3) lv (v :: st)) : RUN g nL p l e R s m args below meth c A cells slots Q ws pc lv (.ref a :: st) := r_getN (host := RX11) C (C' := RX6) (T := TX6) (N := 3) (ci := 5) (ref := RX6) inlX6 rfl 0 (by decide) (List.mem_of_getElem? (i := 22) rfl) rfl hd q0 hq hv k
theorem gf_X11_121 (C : CX g RX11 cc nL ret A p s m args meth c) {a : Nat} {fs : List Value} {v : Value} (hd : decode cc pc = .ok (.getfield 121, 3)) (q0 : Nat) (hq : ws[q0]? = some (a, oB 7 fs)) (hv : fs[1]? = some v) (k : RUN g nL p l e R s m args below meth c A cells slots Q ws (pc + 3) lv (v :: st)) : RUN g nL p l e R s m args below meth c A cells slots Q ws pc lv (.ref a :: st) := r_getN (host := RX11) C (C' := RX8) (T := TX8) (N := 2) (ci := 7) (ref := RX8) inlX8 rfl 1 (by decide) (List.mem_of_getElem? (i := 0) rfl) rfl hd q0 hq hv k
theorem pf_X11_121 (C : CX g RX11 cc nL ret A p s m args meth c) {a : Nat} {fs : List Value} {x : Int} {ws' : va_W} (hd : decode cc pc = .ok (.putfield 121, 3)) (q0 : Nat) (hq : ws[q0]? = some (a, oB 7 fs)) (hlen : 1 < fs.length) (hw : ws.set q0 (a, oB 7 (fs.set 1 (vi x))) = ws') (k : RUN g nL p l e R s m args below meth c A cells slots Q ws' (pc + 3) lv st) : RUN g nL p l e R s m args below meth c A cells slots Q ws pc lv (vi x :: .ref a :: st) := r_putN (host := RX11) C (C' := RX8) (T := TX8) (N := 2) (ci := 7) (ref := RX8) (ty := .int) inlX8 tyX8 tyX8_ok nmX8 rfl 1 (by decide) (List.mem_of_getElem? (i := 0) rfl) rfl rfl rfl hd q0 hq hlen (vp_nar_int _) rfl hw k
theorem gf_X11_123 (C : CX g RX11 cc nL ret A p s m args meth c) {a : Nat} {fs : List Value} {v : Value} (hd : decode cc pc = .ok (.getfield 123, 3)) (q0 : Nat) (hq : ws[q0]? = some (a, oB 5 fs)) (hv : fs[1]? = some v) (k : RUN g nL p l e R s m args below meth c A cells slots Q ws (pc + 3) lv (v :: st)) : RUN g nL p l e R s m args below meth c A cells slots Q ws pc lv (.ref a :: st) := r_getN (host := RX11) C (C' := RX6) (T := TX6) (N := 3) (ci := 5) (ref := RX6) inlX6 rfl 1 (by decide) (List.mem_of_getElem? (i := 23) rfl) rfl hd q0 hq hv k
theorem pf_X11_123 (C : CX g RX11 cc nL ret A p s m args meth c) {a : Nat} {fs : List Value} {x : Int} {ws' : va_W} (hd : decode cc pc = .ok (.putfield 123, 3)) (q0 : Nat) (hq : ws[q0]? = some (a, oB 5 fs)) (hlen : 1 < fs.length) (hna : narrow .boolean (vi x) = vi x) (hfi : fits .boolean (vi x) = true) (hw : ws.set q0 (a, oB 5 (fs.set 1 (vi x))) = ws') (k : RUN g nL p l e R s m args below meth c A cells slots Q ws' (pc + 3) lv st) : RUN g nL p l e R s m args below meth c A cells slots Q ws pc lv (vi x :: .ref a :: st) := r_putN (host := RX11) C (C' := RX6) (T := TX6) (N := 3) (ci := 5) (ref := RX6) (ty := .boolean) inlX6 tyX6 tyX6_ok nmX6 rfl 1 (by decide) (List.mem_of_getElem? (i := 23) rfl) rfl rfl rfl hd q0 hq hlen hna hfi hw k
theorem gf_X11_126 (C : CX g RX11 cc nL ret A p s m args meth c) {a : Nat} {fs : List Value} {v : Value} (hd : decode cc pc = .ok (.getfield 126, 3)) (q0 : Nat) (hq : ws[q0]? = some (a, oB 6 fs)) (hv : fs[5]? = some v) (k : RUN g nL p l e R s m args below meth c A cells slots Q ws (pc + 3) lv (v :: st)) : RUN g nL p l e R s m args below meth c A cells slots Q ws pc lv (.ref a :: st) := r_getN (host := RX11) C (C' := RX7) (T := TX7) (N := 8) (ci := 6) (ref := RX7) inlX7 rfl 5 (by decide) (List.mem_of_getElem? (i := 14) rfl) rfl hd q0 hq hv k
theorem pf_X11_126 (C : CX g RX11 cc nL ret A p s m args meth c) {a : Nat} {fs : List Value} {x : Int} {ws' : va_W} (hd : decode cc pc = .ok (.putfield 126, 3)) (q0 : Nat) (hq : ws[q0]? = some (a, oB 6 fs)) (hlen : 5 < fs.length) (hw : ws.set q0 (a, oB 6 (fs.set 5 (vi x))) = ws') (k : RUN g nL p l e R s m args below meth c A cells slots Q ws' (pc + 3) lv st) : RUN g nL p l e R s m args below meth c A cells slots Q ws pc lv (vi x :: .ref a :: st) := r_putN (host := RX11) C (C' := RX7) (T := TX7) (N := 8) (ci := 6) (ref := RX7) (ty := .int) inlX7 tyX7 tyX7_ok nmX7 rfl 5 (by decide) (List.mem_of_getElem? (i := 14) rfl) rfl rfl rfl hd q0 hq hlen (vp_nar_int _) rfl hw k
theorem gf_X11_129 (C : CX g RX11 cc nL ret A p s m args meth c) {a : Nat} {fs : List Value} {v : Value} (hd : decode cc pc = .ok (.getfield 129, 3)) (q0 : Nat) (hq : ws[q0]? = some (a, oB 3 fs)) (hv : fs[3]? = some v) (k : RUN g nL p l e R s m args below meth c A cells slots Q ws (pc + 3) lv (v :: st)) : RUN g nL p l e R s m args below meth c A cells slots Q ws pc lv (.ref a :: st) := r_getN (host := RX11) C (C' := RX3) (T := TX3) (N := 4) (ci := 3) (ref := RX3) inlX3 rfl 3 (by decide) (List.mem_of_getElem? (i := 24) rfl) rfl hd q0 hq hv k
theorem pf_X11_129 (C : CX g RX11 cc nL ret A p s m args meth c) {a : Nat} {fs : List Value} {x : Int} {ws' : va_W} (hd : decode cc pc = .ok (.putfield 129, 3)) (q0 : Nat) (hq : ws[q0]? = some (a, oB 3 fs)) (hlen : 3 < fs.length) (hw : ws.set q0 (a, oB 3 (fs.set 3 (vi x))) = ws') (k : RUN g nL p l e R s m args below meth c A cells slots Q ws' (pc + 3) lv st) : RUN g nL p l e R s m args below meth c A cells slots Q ws pc lv (vi x :: .ref a :: st) := r_putN (host := RX11) C (C' := RX3) (T := TX3) (N := 4) (ci := 3) (ref := RX3) (ty := .int) inlX3 tyX3 tyX3_ok nmX3 rfl 3 (by decide) (List.mem_of_getElem? (i := 24) rfl) rfl rfl rfl hd q0 hq hlen (vp_nar_int _) rfl hw k
theorem gf_X11_132 (C : CX g RX11 cc nL ret A p s m args meth c) {a : Nat} {fs : List Value} {v : Value} (hd : decode cc pc = .ok (.getfield 132, 3)) (q0 : Nat) (hq : ws[q0]? = some (a, oB 0 fs)) (hv : fs[2]? = some v) (k : RUN g nL p l e R s m args below meth c A cells slots Q ws (pc + 3) lv (v :: st)) : RUN g nL p l e R s m args below meth c A cells slots Q ws pc lv (.ref a :: st) := r_getN (host := RX11) C (C' := RX0) (T := TX0) (N := 3) (ci := 0) (ref := RX0) inlX0 rfl 2 (by decide) (List.mem_of_getElem? (i := 28) rfl) rfl hd q0 hq hv k
theorem pf_X11_132 (C : CX g RX11 cc nL ret A p s m args meth c) {a : Nat} {fs : List Value} {x : Int} {ws' : va_W} (hd : decode cc pc = .ok (.putfield 132, 3)) (q0 : Nat) (hq : ws[q0]? = some (a, oB 0 fs)) (hlen : 2 < fs.length) (hw : ws.set q0 (a, oB 0 (fs.set 2 (vi x))) = ws') (k : RUN g nL p l e R s m args below meth c A cells slots Q ws' (pc + 3) lv st) : RUN g nL p l e R s m args below meth c A cells slots Q ws pc lv (vi x :: .ref a :: st) := r_putN (host := RX11) C (C' := RX0) (T := TX0) (N := 3) (ci := 0) (ref := RX0) (ty := .int) inlX0 tyX0 tyX0_ok nmX0 rfl 2 (by decide) (List.mem_of_getElem? (i := 28) rfl) rfl rfl rfl hd q0 hq hlen (vp_nar_int _) rfl hw k
theorem gf_X11_176 (C : CX g RX11 cc nL ret A p s m args meth c) {a : Nat} {fs : List Value} {v : Value} (hd : decode cc pc = .ok (.getfield 176, 3)) (q0 : Nat) (hq : ws[q0]? = some (a, oB 6 fs)) (hv : fs[6]? = some v) (k : RUN g nL p l e R s m args below meth c A cells slots Q ws (pc + 3) lv (v :: st)) : RUN g nL p l e R s m args below meth c A cells slots Q ws pc lv (.ref a :: st) := r_getN (host := RX11) C (C' := RX7) (T := TX7) (N := 8) (ci := 6) (ref := RX7) inlX7 rfl 6 (by decide) (List.mem_of_getElem? (i := 18) rfl) rfl hd q0 hq hv k
theorem pf_X11_176 (C : CX g RX11 cc nL ret A p s m args meth c) {a : Nat} {fs : List Value} {x : Int} {ws' : va_W} (hd : decode cc pc = .ok (.putfield 176, 3)) (q0 : Nat) (hq : ws[q0]? = some (a, oB 6 fs)) (hlen : 6 < fs.length) (hw : ws.set q0 (a, oB 6 (fs.set 6 (vi x))) = ws') (k : RUN g nL p l e R s m args below meth c A cells slots Q ws' (pc + 3) lv st) : RUN g nL p l e R s m args below meth c A cells slots Q ws pc lv (vi x :: .ref a :: st) := r_putN (host := RX11) C (C' := RX7) (T := TX7) (N := 8) (ci := 6) (ref := RX7) (ty := .int) inlX7 tyX7 tyX7_ok nmX7 rfl 6 (by decide) (List.mem_of_getElem? (i := 18) rfl) rfl rfl rfl hd q0 hq hlen (vp_nar_int _) rfl hw k
theorem gf_X11_179 (C : CX g RX11 cc nL ret A p s m args meth c) {a : Nat} {fs : List Value} {v : Value} (hd : decode cc pc = .ok (.getfield 179, 3)) (q0 : Nat) (hq : ws[q0]? = some (a, oB 6 fs)) (hv : fs[7]? = some v) (k : RUN g nL p l e R s m args below meth c A cells slots Q ws (pc + 3) lv (v :: st)) : RUN g nL p l e R s m args below meth c A cells slots Q ws pc lv (.ref a :: st) := r_getN (host := RX11) C (C' := RX7) (T := TX7) (N := 8) (ci := 6) (ref := RX7) inlX7 rfl 7 (by decide) (List.mem_of_getElem? (i := 21) rfl) rfl hd q0 hq hv k
theorem pf_X11_179 (C : CX g RX11 cc nL ret A p s m args meth c) {a : Nat} {fs : List Value} {x : Int} {ws' : va_W} (hd : decode cc pc = .ok (.putfield 179, 3)) (q0 : Nat) (hq : ws[q0]? = some (a, oB 6 fs)) (hlen : 7 < fs.length) (hw : ws.set q0 (a, oB 6 (fs.set 7 (vi x))) = ws') (k : RUN g nL p l e R s m args below meth c A cells slots Q ws' (pc + 3) lv st) : RUN g nL p l e R s m args below meth c A cells slots Q ws pc lv (vi x :: .ref a :: st) := r_putN (host := RX11) C (C' := RX7) (T := TX7) (N := 8) (ci := 6) (ref := RX7) (ty := .int) inlX7 tyX7 tyX7_ok nmX7 rfl 7 (by decide) (List.mem_of_getElem? (i := 21) rfl) rfl rfl rfl hd q0 hq hlen (vp_nar_int _) rfl hw k
theorem gf_X11_196 (C : CX g RX11 cc nL ret A p s m args meth c) {a : Nat} {fs : List Value} {v : Value} (hd : decode cc pc = .ok (.getfield 196, 3)) (q0 : Nat) (hq : ws[q0]? = some (a, oB 6 fs)) (hv : fs[1]? = some v) (k : RUN g nL p l e R s m args below meth c A cells slots Q ws (pc + 3) lv (v :: st)) : RUN g nL p l e R s m args below meth c A cells slots Q ws pc lv (.ref a :: st) := r_getN (host := RX11) C (C' := RX7) (T := TX7) (N := 8) (ci := 6) (ref := RX7) inlX7 rfl 1 (by decide) (List.mem_of_getElem? (i := 9) rfl) rfl hd q0 hq hv k
theorem pf_X11_196 (C : CX g RX11 cc nL ret A p s m args meth c) {a : Nat} {fs : List Value} {x : Int} {ws' : va_W} (hd : decode cc pc = .ok (.putfield 196, 3)) (q0 : Nat) (hq : ws[q0]? = some (a, oB 6 fs)) (hlen : 1 < fs.length) (hw : ws.set q0 (a, oB 6 (fs.set 1 (vi x))) = ws') (k : RUN g nL p l e R s m args below meth c A cells slots Q ws' (pc + 3) lv st) : RUN g nL p l e R s m args below meth c A cells slots Q ws pc lv (vi x :: .ref a :: st) := r_putN (host := RX11) C (C' := RX7) (T := TX7) (N := 8) (ci := 6) (ref := RX7) (ty := .int) inlX7 tyX7 tyX7_ok nmX7 rfl 1 (by decide) (List.mem_of_getElem? (i := 9) rfl) rfl rfl rfl hd q0 hq hlen (vp_nar_int _) rfl hw k
theorem gf_X11_199 (C : CX g RX11 cc nL ret A p s m args meth c) {a : Nat} {fs : List Value} {v : Value} (hd : decode cc pc = .ok (.getfield 199, 3)) (q0 : Nat) (hq : ws[q0]? = some (a, oB 6 fs)) (hv : fs[0]? = some v) (k : RUN g nL p l e R s m args below meth c A cells slots Q ws (pc + 3) lv (v :: st)) : RUN g nL p l e R s m args below meth c A cells slots Q ws pc lv (.ref a :: st) := r_getN (host := RX11) C (C' := RX7) (T := TX7) (N := 8) (ci := 6) (ref := RX7) inlX7 rfl 0 (by decide) (List.mem_of_getElem? (i := 5) rfl) rfl hd q0 hq hv k
theorem pf_X11_199 (C : CX g RX11 cc nL ret A p s m args meth c) {a : Nat} {fs : List Value} {x : Int} {ws' : va_W} (hd : decode cc pc = .ok (.putfield 199, 3)) (q0 : Nat) (hq : ws[q0]? = some (a, oB 6 fs)) (hlen : 0 < fs.length) (hw : ws.set q0 (a, oB 6 (fs.set 0 (vi x))) = ws') (k : RUN g nL p l e R s m args below meth c A cells slots Q ws' (pc + 3) lv st) : RUN g nL p l e R s m args below meth c A cells slots Q ws pc lv (vi x :: .ref a :: st) := r_putN (host := RX11) C (C' := RX7) (T := TX7) (N := 8) (ci := 6) (ref := RX7) (ty := .int) inlX7 tyX7 tyX7_ok nmX7 rfl 0 (by decide) (List.mem_of_getElem? (i := 5) rfl) rfl rfl rfl hd q0 hq hlen (vp_nar_int _) rfl hw k
theorem gf_X11_213 (C : CX g RX11 cc nL ret A p s m args meth c) {a : Nat} {fs : List Value} {v : Value} (hd : decode cc pc = .ok (.getfield 213, 3)) (q0 : Nat) (hq : ws[q0]? = some (a, oB 8 fs)) (hv : fs[0]? = some v) (k : RUN g nL p l e R s m args below meth c A cells slots Q ws (pc + 3) lv (v :: st)) : RUN g nL p l e R s m args below meth c A cells slots Q ws pc lv (.ref a :: st) := r_getN (host := RX11) C (C' := RX9) (T := TX9) (N := 7) (ci := 8) (ref := RX9) inlX9 rfl 0 (by decide) (List.mem_of_getElem? (i := 34) rfl) rfl hd q0 hq hv k
theorem gf_X11_217 (C : CX g RX11 cc nL ret A p s m args meth c) {a : Nat} {fs : List Value} {v : Value} (hd : decode cc pc = .ok (.getfield 217, 3)) (q0 : Nat) (hq : ws[q0]? = some (a, oB 8 fs)) (hv : fs[1]? = some v) (k : RUN g nL p l e R s m args below meth c A cells slots Q ws (pc + 3) lv (v :: st)) : RUN g nL p l e R s m args below meth c A cells slots Q ws pc lv (.ref a :: st) := r_getN (host := RX11) C (C' := RX9) (T := TX9) (N := 7) (ci := 8) (ref := RX9) inlX9 rfl 1 (by decide) (List.mem_of_getElem? (i := 37) rfl) rfl hd q0 hq hv k
theorem gf_X11_224 (C : CX g RX11 cc nL ret A p s m args meth c) {a : Nat} {fs : List Value} {v : Value} (hd : decode cc pc = .ok (.getfield 224, 3)) (q0 : Nat) (hq : ws[q0]? = some (a, oB 2 fs)) (hv : fs[0]? = some v) (k : RUN g nL p l e R s m args below meth c A cells slots Q ws (pc + 3) lv (v :: st)) : RUN g nL p l e R s m args below meth c A cells slots Q ws pc lv (.ref a :: st) := r_getN (host := RX11) C (C' := RX2) (T := TX2) (N := 4) (ci := 2) (ref := RX2) inlX2 rfl 0 (by decide) (List.mem_of_getElem? (i := 42) rfl) rfl hd q0 hq hv k
theorem pf_X11_224 (C : CX g RX11 cc nL ret A p s m args meth c) {a : Nat} {fs : List Value} {x : Int} {ws' : va_W} (hd : decode cc pc = .ok (.putfield 224, 3)) (q0 : Nat) (hq : ws[q0]? = some (a, oB 2 fs)) (hlen : 0 < fs.length) (hw : ws.set q0 (a, oB 2 (fs.set 0 (vi x))) = ws') (k : RUN g nL p l e R s m args below meth c A cells slots Q ws' (pc + 3) lv st) : RUN g nL p l e R s m args below meth c A cells slots Q ws pc lv (vi x :: .ref a :: st) := r_putN (host := RX11) C (C' := RX2) (T := TX2) (N := 4) (ci := 2) (ref := RX2) (ty := .int) inlX2 tyX2 tyX2_ok nmX2 rfl 0 (by decide) (List.mem_of_getElem? (i := 42) rfl) rfl rfl rfl hd q0 hq hlen (vp_nar_int _) rfl hw k
theorem gf_X11_227 (C : CX g RX11 cc nL ret A p s m args meth c) {a : Nat} {fs : List Value} {v : Value} (hd : decode cc pc = .ok (.getfield 227, 3)) (q0 : Nat) (hq : ws[q0]? = some (a, oB 2 fs)) (hv : fs[1]? = some v) (k : RUN g nL p l e R s m args below meth c A cells slots Q ws (pc + 3) lv (v :: st)) : RUN g nL p l e R s m args below meth c A cells slots Q ws pc lv (.ref a :: st) := r_getN (host := RX11) C (C' := RX2) (T := TX2) (N := 4) (ci := 2) (ref := RX2) inlX2 rfl 1 (by decide) (List.mem_of_getElem? (i := 44) rfl) rfl hd q0 hq hv k
theorem pf_X11_227 (C : CX g RX11 cc nL ret A p s m args meth c) {a : Nat} {fs : List Value} {x : Int} {ws' : va_W} (hd : decode cc pc = .ok (.putfield 227, 3)) (q0 : Nat) (hq : ws[q0]? = some (a, oB 2 fs)) (hlen : 1 < fs.length) (hw : ws.set q0 (a, oB 2 (fs.set 1 (vi x))) = ws') (k : RUN g nL p l e R s m args below meth c A cells slots Q ws' (pc + 3) lv st) : RUN g nL p l e R s m args below meth c A cells slots Q ws pc lv (vi x :: .ref a :: st) := r_putN (host := RX11) C (C' := RX2) (T := TX2) (N := 4) (ci := 2) (ref := RX2) (ty := .int) inlX2 tyX2 tyX2_ok nmX2 rfl 1 (by decide) (List.mem_of_getElem? (i := 44) rfl) rfl rfl rfl hd q0 hq hlen (vp_nar_int _) rfl hw k
theorem gf_X11_230 (C : CX g RX11 cc nL ret A p s m args meth c) {a : Nat} {fs : List Value} {v : Value} (hd : decode cc pc = .ok (.getfield 230, 3)) (q0 : Nat) (hq : ws[q0]? = some (a, oB 2 fs)) (hv : fs[2]? = some v) (k : RUN g nL p l e R s m args below meth c A cells slots Q ws (pc + 3) lv (v :: st)) : RUN g nL p l e R s m args below meth c A cells slots Q ws pc lv (.ref a :: st) := r_getN (host := RX11) C (C' := RX2) (T := TX2) (N := 4) (ci := 2) (ref := RX2) inlX2 rfl 2 (by decide) (List.mem_of_getElem? (i := 45) rfl) rfl hd q0 hq hv k
theorem pf_X11_230 (C : CX g RX11 cc nL ret A p s m args meth c) {a : Nat} {fs : List Value} {x : Int} {ws' : va_W} (hd : decode cc pc = .ok (.putfield 230, 3)) (q0 : Nat) (hq : ws[q0]? = some (a, oB 2 fs)) (hlen : 2 < fs.length) (hw : ws.set q0 (a, oB 2 (fs.set 2 (vi x))) = ws') (k : RUN g nL p l e R s m args below meth c A cells slots Q ws' (pc + 3) lv st) : RUN g nL p l e R s m args below meth c A cells slots Q ws pc lv (vi x :: .ref a :: st) := r_putN (host := RX11) C (C' := RX2) (T := TX2) (N := 4) (ci := 2) (ref := RX2) (ty := .int) inlX2 tyX2 tyX2_ok nmX2 rfl 2 (by decide) (List.mem_of_getElem? (i := 45) rfl) rfl rfl rfl hd q0 hq hlen (vp_nar_int _) rfl hw k
theorem gf_X11_233 (C : CX g RX11 cc nL ret A p s m args meth c) {a : Nat} {fs : List Value} {v : Value} (hd : decode cc pc = .ok (.getfield 233, 3)) (q0 : Nat) (hq : ws[q0]? = some (a, oB 2 fs)) (hv : fs[3]? = some v) (k : RUN g nL p l e R s m args below meth c A cells slots Q ws (pc + 3) lv (v :: st)) : RUN g nL p l e R s m args below meth c A cells slots Q ws pc lv (.ref a :: st) := r_getN (host := RX11) C (C' := RX2) (T := TX2) (N := 4) (ci := 2) (ref := RX2) inlX2 rfl 3 (by decide) (List.mem_of_getElem? (i := 46) rfl) rfl hd q0 hq hv k
theorem pf_X11_233 (C : CX g RX11 cc nL ret A p s m args meth c) {a : Nat} {fs : List Value} {x : Int} {ws' : va_W} (hd : decode cc pc = .ok (.putfield 233, 3)) (q0 : Nat) (hq : ws[q0]? = some (a, oB 2 fs)) (hlen : 3 < fs.length) (hw : ws.set q0 (a, oB 2 (fs.set 3 (vi x))) = ws') (k : RUN g nL p l e R s m args below meth c A cells slots Q ws' (pc + 3) lv st) : RUN g nL p l e R s m args below meth c A cells slots Q ws pc lv (vi x :: .ref a :: st) := r_putN (host := RX11) C (C' := RX2) (T := TX2) (N := 4) (ci := 2) (ref := RX2) (ty := .int) inlX2 tyX2 tyX2_ok nmX2 rfl 3 (by decide) (List.mem_of_getElem? (i := 46) rfl) rfl rfl rfl hd q0 hq hlen (vp_nar_int _) rfl hw k
theorem gf_X11_245 (C : CX g RX11 cc nL ret A p s m args meth c) {a : Nat} {fs : List Value} {v : Value} (hd : decode cc pc = .ok (.getfield 245, 3)) (q0 : Nat) (hq : ws[q0]? = some (a, oB 8 fs)) (hv : fs[2]? = some v) (k : RUN g nL p l e R s m args below meth c A cells slots Q ws (pc + 3) lv (v :: st)) : RUN g nL p l e R s m args below meth c A cells slots Q ws pc lv (.ref a :: st) := r_getN (host := RX11) C (C' := RX9) (T := TX9) (N := 7) (ci := 8) (ref := RX9) inlX9 rfl 2 (by decide) (List.mem_of_getElem? (i := 40) rfl) rfl hd q0 hq hv k
theorem pf_X11_245 (C : CX g RX11 cc nL ret A p s m args meth c) {a : Nat} {fs : List Value} {x : Int} {ws' : va_W} (hd : decode cc pc = .ok (.putfield 245, 3)) (q0 : Nat) (hq : ws[q0]? = some (a, oB 8 fs)) (hlen : 2 < fs.length) (hw : ws.set q0 (a, oB 8 (fs.set 2 (vi x))) = ws') (k : RUN g nL p l e R s m args below meth c A cells slots Q ws' (pc + 3) lv st) : RUN g nL p l e R s m args below meth c A cells slots Q ws pc lv (vi x :: .ref a :: st) := r_putN (host := RX11) C (C' := RX9) (T := TX9) (N := 7) (ci := 8) (ref := RX9) (ty := .int) inlX9 tyX9 tyX9_ok nmX9 rfl 2 (by decide) (List.mem_of_getElem? (i := 40) rfl) rfl rfl rfl hd q0 hq hlen (vp_nar_int _) rfl hw k
theorem gf_X11_258 (C : CX g RX11 cc nL ret A p s m args meth c) {a : Nat} {fs : List Value} {v : Value} (hd : decode cc pc = .ok (.getfield 258, 3)) (q0 : Nat) (hq : ws[q0]? = some (a, oB 4 fs)) (hv : fs[2]? = some v) (k : RUN g nL p l e R s m args below meth c A cells slots Q ws (pc + 3) lv (v :: st)) : RUN g nL p l e R s m args below meth c A cells slots Q ws pc lv (.ref a :: st) := r_getN (host := RX11) C (C' := RX5) (T := TX5) (N := 9) (ci := 4) (ref := RX5) inlX5 rfl 2 (by decide) (List.mem_of_getElem? (i := 47) rfl) rfl hd q0 hq hv k
theorem gf_X11_261 (C : CX g RX11 cc nL ret A p s m args meth c) {a : Nat} {fs : List Value} {v : Value} (hd : decode cc pc = .ok (.getfield 261, 3)) (q0 : Nat) (hq : ws[q0]? = some (a, oB 4 fs)) (hv : fs[3]? = some v) (k : RUN g nL p l e R s m args below meth c A cells slots Q ws (pc + 3) lv (v :: st)) : RUN g nL p l e R s m args below meth c A cells slots Q ws pc lv (.ref a :: st) := r_getN (host := RX11) C (C' := RX5) (T := TX5) (N := 9) (ci := 4) (ref := RX5) inlX5 rfl 3 (by decide) (List.mem_of_getElem? (i := 48) rfl) rfl hd q0 hq hv k
theorem pf_X11_261 (C : CX g RX11 cc nL ret A p s m args meth c) {a : Nat} {fs : List Value} {x : Int} {ws' : va_W} (hd : decode cc pc = .ok (.putfield 261, 3)) (q0 : Nat) (hq : ws[q0]? = some (a, oB 4 fs)) (hlen : 3 < fs.length) (hw : ws.set q0 (a, oB 4 (fs.set 3 (vi x))) = ws') (k : RUN g nL p l e R s m args below meth c A cells slots Q ws' (pc + 3) lv st) : RUN g nL p l e R s m args below meth c A cells slots Q ws pc lv (vi x :: .ref a :: st) := r_putN (host := RX11) C (C' := RX5) (T := TX5) (N := 9) (ci := 4) (ref := RX5) (ty := .int) inlX5 tyX5 tyX5_ok nmX5 rfl 3 (by decide) (List.mem_of_getElem? (i := 48) rfl) rfl rfl rfl hd q0 hq hlen (vp_nar_int _) rfl hw k
theorem gf_X11_271 (C : CX g RX11 cc nL ret A p s m args meth c) {a : Nat} {fs : List Value} {v : Value} (hd : decode cc pc = .ok (.getfield 271, 3)) (q0 : Nat) (hq : ws[q0]? = some (a, oB 4 fs)) (hv : fs[6]? = some v) (k : RUN g nL p l e R s m args below meth c A cells slots Q ws (pc + 3) lv (v :: st)) : RUN g nL p l e R s m args below meth c A cells slots Q ws pc lv (.ref a :: st) := r_getN (host := RX11) C (C' := RX5) (T := TX5) (N := 9) (ci := 4) (ref := RX5) inlX5 rfl 6 (by decide) (List.mem_of_getElem? (i := 49) rfl) rfl hd q0 hq hv k
theorem gf_X11_274 (C : CX g RX11 cc nL ret A p s m args meth c) {a : Nat} {fs : List Value} {v : Value} (hd : decode cc pc = .ok (.getfield 274, 3)) (q0 : Nat) (hq : ws[q0]? = some (a, oB 4 fs)) (hv : fs[7]? = some v) (k : RUN g nL p l e R s m args below meth c A cells slots Q ws (pc + 3) lv (v :: st)) : RUN g nL p l e R s m args below meth c A cells slots Q ws pc lv (.ref a :: st) := r_getN (host := RX11) C (C' := RX5) (T := TX5) (N := 9) (ci := 4) (ref := RX5) inlX5 rfl 7 (by decide) (List.mem_of_getElem? (i := 50) rfl) rfl hd q0 hq hv k
theorem pf_X11_274 (C : CX g RX11 cc nL ret A p s m args meth c) {a : Nat} {fs : List Value} {x : Int} {ws' : va_W} (hd : decode cc pc = .ok (.putfield 274, 3)) (q0 : Nat) (hq : ws[q0]? = some (a, oB 4 fs)) (hlen : 7 < fs.length) (hw : ws.set q0 (a, oB 4 (fs.set 7 (vi x))) = ws') (k : RUN g nL p l e R s m args below meth c A cells slots Q ws' (pc + 3) lv st) : RUN g nL p l e R s m args below meth c A cells slots Q ws pc lv (vi x :: .ref a :: st) := r_putN (host := RX11) C (C' := RX5) (T := TX5) (N := 9) (ci := 4) (ref := RX5) (ty := .int) inlX5 tyX5 tyX5_ok nmX5 rfl 7 (by decide) (List.mem_of_getElem? (i := 50) rfl) rfl rfl rfl hd q0 hq hlen (vp_nar_int _) rfl hw k
theorem gf_X11_280 (C : CX g RX11 cc nL ret A p s m args meth c) {a : Nat} {fs : List Value} {v : Value} (hd : decode cc pc = .ok (.getfield 280, 3)) (q0 : Nat) (hq : ws[q0]? = some (a, oB 0 fs)) (hv : fs[1]? = some v) (k : RUN g nL p l e R s m args below meth c A cells slots Q ws (pc + 3) lv (v :: st)) : RUN g nL p l e R s m args below meth c A cells slots Q ws pc lv (.ref a :: st) := r_getN (host := RX11) C (C' := RX0) (T := TX0) (N := 3) (ci := 0) (ref := RX0) inlX0 rfl 1 (by decide) (List.mem_of_getElem? (i := 26) rfl) rfl hd q0 hq hv k
theorem gf_X11_283 (C : CX g RX11 cc nL ret A p s m args meth c) {a : Nat} {fs : List Value} {v : Value} (hd : decode cc pc = .ok (.getfield 283, 3)) (q0 : Nat) (hq : ws[q0]? = some (a, oB 0 fs)) (hv : fs[0]? = some v) (k : RUN g nL p l e R s m args below meth c A cells slots Q ws (pc + 3) lv (v :: st)) : RUN g nL p l e R s m args below meth c A cells slots Q ws pc lv (.ref a :: st) := r_getN (host := RX11) C (C' := RX0) (T := TX0) (N := 3) (ci := 0) (ref := RX0) inlX0 rfl 0 (by decide) (List.mem_of_getElem? (i := 25) rfl) rfl hd q0 hq hv k
theorem gf_X11_305 (C : CX g RX11 cc nL ret A p s m args meth c) {a : Nat} {fs : List Value} {v : Value} (hd : decode cc pc = .ok (.getfield 305, 3)) (q0 : Nat) (hq : ws[q0]? = some (a, oB 9 fs)) (hv : fs[0]? = some v) (k : RUN g nL p l e R s m args below meth c A cells slots Q ws (pc + 3) lv (v :: st)) : RUN g nL p l e R s m args below meth c A cells slots Q ws pc lv (.ref a :: st) := r_getN (host := RX11) C (C' := RX10) (T := TX10) (N := 1) (ci := 9) (ref := RX10) inlX10 rfl 0 (by decide) (List.mem_of_getElem? (i := 51) rfl) rfl hd q0 hq hv k
theorem gf_X12_7 (C : CX g RX12 cc nL ret A p s m args meth c) {a : Nat} {fs : List Value} {v : Value} (hd : decode cc pc = .ok (.getfield 7, 3)) (q0 : Nat) (hq : ws[q0]? = some (a, oB 11 fs)) (hv : fs[2]? = some v) (k : RUN g nL p l e R s m args below meth c A cells slots Q ws (pc + 3) lv (v :: st)) : RUN g nL p l e R s m args below meth c A cells slots Q ws pc lv (.ref a :: st) := r_get C (C' := RX12) (T := TX12) (N := 27) (ci := 11) (ref := RX12) inlX12 rfl 2 (by decide) (in_r11 (List.mem_of_getElem? (i := 5) rfl)) rfl hd q0 hq hv k
theorem pf_X12_7 (C : CX g RX12 cc nL ret A p s m args meth c) {a : Nat} {fs : List Value} {b : Nat} {ws' : va_W} (hin : meth.name = "<init>") (hd : decode cc pc = .ok (.putfield 7, 3)) (q0 : Nat) (hq : ws[q0]? = some (a, oB 11 fs)) (hlen : 2 < fs.length) (hw : ws.set q0 (a, oB 11 (fs.set 2 (.ref b))) = ws') (k : RUN g nL p l e R s m args below meth c A cells slots Q ws' (pc + 3) lv st) : RUN g nL p l e R s m args below meth c A cells slots Q ws pc lv (.ref b :: .ref a :: st) := r_putF (host := RX11) C (C' := RX12) (T := TX12) (N := 27) (ci := 11) (ref := RX12) (ty := (.array .int)) inlX12 tyX12 tyX12_ok nmX12 rfl 2 (by decide) (in_r11 (List.mem_of_getElem? (i := 5) rfl)) rfl rfl hin rfl rfl hd q0 hq hlen rfl rfl hw k
theorem gf_X12_13 (C : CX g RX12 cc nL ret A p s m args meth c) {a : Nat} {fs : List Value} {v : Value} (hd : decode cc pc = .ok (.getfield 13, 3)) (q0 : Nat) (hq : ws[q0]? = some (a, oB 11 fs)) (hv : fs[3]? = some v) (k : RUN g nL p l e R s m args below meth c A cells slots Q ws (pc + 3) lv (v :: st)) : RUN g nL p l e R s m args below meth c A cells slots Q ws pc lv (.ref a :: st) := r_get C (C' := RX12) (T := TX12) (N := 27) (ci := 11) (ref := RX12) inlX12 rfl 3 (by decide) (in_r11 (List.mem_of_getElem? (i := 6) rfl)) rfl hd q0 hq hv k
theorem pf_X12_13 (C : CX g RX12 cc nL ret A p s m args meth c) {a : Nat} {fs : List Value} {b : Nat} {ws' : va_W} (hin : meth.name = "<init>") (hd : decode cc pc = .ok (.putfield 13, 3)) (q0 : Nat) (hq : ws[q0]? = some (a, oB 11 fs)) (hlen : 3 < fs.length) (hw : ws.set q0 (a, oB 11 (fs.set 3 (.ref b))) = ws') (k : RUN g nL p l e R s m args below meth c A cells slots Q ws' (pc + 3) lv st) : RUN g nL p l e R s m args below meth c A cells slots Q ws pc lv (.ref b :: .ref a :: st) := r_putF (host := RX11) C (C' := RX12) (T := TX12) (N := 27) (ci := 11) (ref := RX12) (ty := (.array .int)) inlX12 tyX12 tyX12_ok nmX12 rfl 3 (by decide) (in_r11 (List.mem_of_getElem? (i := 6) rfl)) rfl rfl hin rfl rfl hd q0 hq hlen rfl rfl hw k
theorem gf_X12_16 (C : CX g RX12 cc nL ret A p s m args meth c) {a : Nat} {fs : List Value} {v : Value} (hd : decode cc pc = .ok (.getfield 16, 3)) (q0 : Nat) (hq : ws[q0]? = some (a, oB 11 fs)) (hv : fs[6]? = some v) (k : RUN g nL p l e R s m args below meth c A cells slots Q ws (pc + 3) lv (v :: st)) : RUN g nL p l e R s m args below meth c A cells slots Q ws pc lv (.ref a :: st) := r_get C (C' := RX12) (T := TX12) (N := 27) (ci := 11) (ref := RX12) inlX12 rfl 6 (by decide) (in_r11 (List.mem_of_getElem? (i := 7) rfl)) rfl hd q0 hq hv k
theorem pf_X12_16 (C : CX g RX12 cc nL ret A p s m args meth c) {a : Nat} {fs : List Value} {b : Nat} {ws' : va_W} (hin : meth.name = "<init>") (hd : decode cc pc = .ok (.putfield 16, 3)) (q0 : Nat) (hq : ws[q0]? = some (a, oB 11 fs)) (hlen : 6 < fs.length) (hw : ws.set q0 (a, oB 11 (fs.set 6 (.ref b))) = ws') (k : RUN g nL p l e R s m args below meth c A cells slots Q ws' (pc + 3) lv st) : RUN g nL p l e R s m args below meth c A cells slots Q ws pc lv (.ref b :: .ref a :: st) := r_putF (host := RX11) C (C' := RX12) (T := TX12) (N := 27) (ci := 11) (ref := RX12) (ty := (.array .int)) inlX12 tyX12 tyX12_ok nmX12 rfl 6 (by decide) (in_r11 (List.mem_of_getElem? (i := 7) rfl)) rfl rfl hin rfl rfl hd q0 hq hlen rfl rfl hw k
theorem gf_X12_19 (C : CX g RX12 cc nL ret A p s m args meth c) {a : Nat} {fs : List Value} {v : Value} (hd : decode cc pc = .ok (.getfield 19, 3)) (q0 : Nat) (hq : ws[q0]? = some (a, oB 11 fs)) (hv : fs[7]? = some v) (k : RUN g nL p l e R s m args below meth c A cells slots Q ws (pc + 3) lv (v :: st)) : RUN g nL p l e R s m args below meth c A cells slots Q ws pc lv (.ref a :: st) := r_get C (C' := RX12) (T := TX12) (N := 27) (ci := 11) (ref := RX12) inlX12 rfl 7 (by decide) (in_r11 (List.mem_of_getElem? (i := 8) rfl)) rfl hd q0 hq hv k
theorem pf_X12_19 (C : CX g RX12 cc nL ret A p s m args meth c) {a : Nat} {fs : List Value} {x : Int} {ws' : va_W} (hd : decode cc pc = .ok (.putfield 19, 3)) (q0 : Nat) (hq : ws[q0]? = some (a, oB 11 fs)) (hlen : 7 < fs.length) (hw : ws.set q0 (a, oB 11 (fs.set 7 (vi x))) = ws') (k : RUN g nL p l e R s m args below meth c A cells slots Q ws' (pc + 3) lv st) : RUN g nL p l e R s m args below meth c A cells slots Q ws pc lv (vi x :: .ref a :: st) := r_put (host := RX11) C (C' := RX12) (T := TX12) (N := 27) (ci := 11) (ref := RX12) (ty := .int) inlX12 tyX12 tyX12_ok nmX12 rfl 7 (by decide) (in_r11 (List.mem_of_getElem? (i := 8) rfl)) rfl rfl rfl hd q0 hq hlen (vp_nar_int _) rfl hw k
theorem gf_X12_23 (C : CX g RX12 cc nL ret A p s m args meth c) {a : Nat} {fs : List Value} {v : Value} (hd : decode cc pc = .ok (.getfield 23, 3)) (q0 : Nat) (hq : ws[q0]? = some (a, oB 11 fs)) (hv : fs[10]? = some v) (k : RUN g nL p l e R s m args below meth c A cells slots Q ws (pc + 3) lv (v :: st)) : RUN g nL p l e R s m args below meth c A cells slots Q ws pc lv (.ref a :: st) := r_get C (C' := RX12) (T := TX12) (N := 27) (ci := 11) (ref := RX12) inlX12 rfl 10 (by decide) (in_r11 (List.mem_of_getElem? (i := 9) rfl)) rfl hd q0 hq hv k
theorem pf_X12_23 (C : CX g RX12 cc nL ret A p s m args meth c) {a : Nat} {fs : List Value} {b : Nat} {ws' : va_W} (hin : meth.name = "<init>") (hd : decode cc pc = .ok (.putfield 23, 3)) (q0 : Nat) (hq : ws[q0]? = some (a, oB 11 fs)) (hlen : 10 < fs.length) (hw : ws.set q0 (a, oB 11 (fs.set 10 (.ref b))) = ws') (k : RUN g nL p l e R s m args below meth c A cells slots Q ws' (pc + 3) lv st) : RUN g nL p l e R s m args below meth c A cells slots Q ws pc lv (.ref b :: .ref a :: st) := r_putF (host := RX11) C (C' := RX12) (T := TX12) (N := 27) (ci := 11) (ref := RX12) (ty := (.array .int)) inlX12 tyX12 tyX12_ok nmX12 rfl 10 (by decide) (in_r11 (List.mem_of_getElem? (i := 9) rfl)) rfl rfl hin rfl rfl hd q0 hq hlen rfl rfl hw k
theorem gf_X12_26 (C : CX g RX12 cc nL ret A p s m args meth c) {a : Nat} {fs : List Value} {v : Value} (hd : decode cc pc = .ok (.getfield 26, 3)) (q0 : Nat) (hq : ws[q0]? = some (a, oB 11 fs)) (hv : fs[15]? = some v) (k : RUN g nL p l e R s m args below meth c A cells slots Q ws (pc + 3) lv (v :: st)) : RUN g nL p l e R s m args below meth c A cells slots Q ws pc lv (.ref a :: st) := r_get C (C' := RX12) (T := TX12) (N := 27) (ci := 11) (ref := RX12) inlX12 rfl 15 (by decide) (in_r11 (List.mem_of_getElem? (i := 10) rfl)) rfl hd q0 hq hv k
theorem pf_X12_26 (C : CX g RX12 cc nL ret A p s m args meth c) {a : Nat} {fs : List Value} {b : Nat} {ws' : va_W} (hin : meth.name = "<init>") (hd : decode cc pc = .ok (.putfield 26, 3)) (q0 : Nat) (hq : ws[q0]? = some (a, oB 11 fs)) (hlen : 15 < fs.length) (hw : ws.set q0 (a, oB 11 (fs.set 15 (.ref b))) = ws') (k : RUN g nL p l e R s m args below meth c A cells slots Q ws' (pc + 3) lv st) : RUN g nL p l e R s m args below meth c A cells slots Q ws pc lv (.ref b :: .ref a :: st) := r_putF (host := RX11) C (C' := RX12) (T := TX12) (N := 27) (ci := 11) (ref := RX12) (ty := (.array .int)) inlX12 tyX12 tyX12_ok nmX12 rfl 15 (by decide) (in_r11 (List.mem_of_getElem? (i := 10) rfl)) rfl rfl hin rfl rfl hd q0 hq hlen rfl rfl hw k
theorem gf_X12_29 (C : CX g RX12 cc nL ret A p s m args meth c) {a : Nat} {fs : List Value} {v : Value} (hd : decode cc pc = .ok (.getfield 29, 3)) (q0 : Nat) (hq : ws[q0]? = some (a, oB 11 fs)) (hv : fs[16]? = some v) (k : RUN g nL p l e R s m args below meth c A cells slots Q ws (pc + 3) lv (v :: st)) : RUN g nL p l e R s m args below meth c A cells slots Q ws pc lv (.ref a :: st) := r_get C (C' := RX12) (T := TX12) (N := 27) (ci := 11) (ref := RX12) inlX12 rfl 16 (by decide) (in_r11 (List.mem_of_getElem? (i := 11) rfl)) rfl hd q0 hq hv k
theorem pf_X12_29 (C : CX g RX12 cc nL ret A p s m args meth c) {a : Nat} {fs : List Value} {b : Nat} {ws' : va_W} (hin : meth.name = "<init>") (hd : decode cc pc = .ok (.putfield 29, 3)) (q0 : Nat) (hq : ws[q0]? = some (a, oB 11 fs)) (hlen : 16 < fs.length) (hw : ws.set q0 (a, oB 11 (fs.set 16 (.ref b))) = ws') (k : RUN g nL p l e R s m args below meth c A cells slots Q ws' (pc + 3) lv st) : RUN g nL p l e R s m args below meth c A cells slots Q ws pc lv (.ref b :: .ref a :: st) := r_putF (host := RX11) C (C' := RX12) (T := TX12) (N := 27) (ci := 11) (ref := RX12) (ty := (.array .int)) inlX12 tyX12 tyX12_ok nmX12 rfl 16 (by decide) (in_r11 (List.mem_of_getElem? (i := 11) rfl)) rfl rfl hin rfl rfl hd q0 hq hlen rfl rfl hw k
theorem gf_X12_32 (C : CX g RX12 cc nL ret A p s m args meth c) {a : Nat} {fs : List Value} {v : Value} (hd : decode cc pc = .ok (.getfield 32, 3)) (q0 : Nat) (hq : ws[q0]? = some (a, oB 11 fs)) (hv : fs[17]? = some v) (k : RUN g nL p l e R s m args below meth c A cells slots Q ws (pc + 3) lv (v :: st)) : RUN g nL p l e R s m args below meth c A cells slots Q ws pc lv (.ref a :: st) := r_get C (C' := RX12) (T := TX12) (N := 27) (ci := 11) (ref := RX12) inlX12 rfl 17 (by decide) (in_r11 (List.mem_of_getElem? (i := 12) rfl)) rfl hd q0 hq hv k
theorem pf_X12_32 (C : CX g RX12 cc nL ret A p s m args meth c) {a : Nat} {fs : List Value} {b : Nat} {ws' : va_W} (hin : meth.name = "<init>") (hd : decode cc pc = .ok (.putfield 32, 3)) (q0 : Nat) (hq : ws[q0]? = some (a, oB 11 fs)) (hlen : 17 < fs.length) (hw : ws.set q0 (a, oB 11 (fs.set 17 (.ref b))) = ws') (k : RUN g nL p l e R s m args below meth c A cells slots Q ws' (pc + 3) lv st) : RUN g nL p l e R s m args below meth c A cells slots Q ws pc lv (.ref b :: .ref a :: st) := r_putF (host := RX11) C (C' := RX12) (T := TX12) (N := 27) (ci := 11) (ref := RX12) (ty := (.array .int)) inlX12 tyX12 tyX12_ok nmX12 rfl 17 (by decide) (in_r11 (List.mem_of_getElem? (i := 12) rfl)) rfl rfl hin rfl rfl hd q0 hq hlen rfl rfl hw k
theorem gf_X12_35 (C : CX g RX12 cc nL ret A p s m args meth c) {a : Nat} {fs : List Value} {v : Value} (hd : decode cc pc = .ok (.getfield 35, 3)) (q0 : Nat) (hq : ws[q0]? = some (a, oB 11 fs)) (hv : fs[18]? = some v) (k : RUN g nL p l e R s m args below meth c A cells slots Q ws (pc + 3) lv (v :: st)) : RUN g nL p l e R s m args below meth c A cells slots Q ws pc lv (.ref a :: st) := r_get C (C' := RX12) (T := TX12) (N := 27) (ci := 11) (ref := RX12) inlX12 rfl 18 (by decide) (in_r11 (List.mem_of_getElem? (i := 13) rfl)) rfl hd q0 hq hv k
theorem pf_X12_35 (C : CX g RX12 cc nL ret A p s m args meth c) {a : Nat} {fs : List Value} {b : Nat} {ws' : va_W} (hin : meth.name = "<init>") (hd : decode cc pc = .ok (.putfield 35, 3)) (q0 : Nat) (hq : ws[q0]? = some (a, oB 11 fs)) (hlen : 18 < fs.length) (hw : ws.set q0 (a, oB 11 (fs.set 18 (.ref b))) = ws') (k : RUN g nL p l e R s m args below meth c A cells slots Q ws' (pc + 3) lv st) : RUN g nL p l e R s m args below meth c A cells slots Q ws pc lv (.ref b :: .ref a :: st) := r_putF (host := RX11) C (C' := RX12) (T := TX12) (N := 27) (ci := 11) (ref := RX12) (ty := (.array .int)) inlX12 tyX12 tyX12_ok nmX12 rfl 18 (by decide) (in_r11 (List.mem_of_getElem? (i := 13) rfl)) rfl rfl hin rfl rfl hd q0 hq hlen rfl rfl hw k
theorem gf_X12_38 (C : CX g RX12 cc nL ret A p s m args meth c) {a : Nat} {fs : List Value} {v : Value} (hd : decode cc pc = .ok (.getfield 38, 3)) (q0 : Nat) (hq : ws[q0]? = some (a, oB 11 fs)) (hv : fs[23]? = some v) (k : RUN g nL p l e R s m args below meth c A cells slots Q ws (pc + 3) lv (v :: st)) : RUN g nL p l e R s m args below meth c A cells slots Q ws pc lv (.ref a :: st) := r_get C (C' := RX12) (T := TX12) (N := 27) (ci := 11) (ref := RX12) inlX12 rfl 23 (by decide) (in_r11 (List.mem_of_getElem? (i := 14) rfl)) rfl hd q0 hq hv k
theorem pf_X12_38 (C : CX g RX12 cc nL ret A p s m args meth c) {a : Nat} {fs : List Value} {b : Nat} {ws' : va_W} (hin : meth.name = "<init>") (hd : decode cc pc = .ok (.putfield 38, 3)) (q0 : Nat) (hq : ws[q0]? = some (a, oB 11 fs)) (hlen : 23 < fs.length) (hw : ws.set q0 (a, oB 11 (fs.set 23 (.ref b))) = ws') (k : RUN g nL p l e R s m args below meth c A cells slots Q ws' (pc + 3) lv st) : RUN g nL p l e R s m args below meth c A cells slots Q ws pc lv (.ref b :: .ref a :: st) := r_putF (host := RX11) C (C' := RX12) (T := TX12) (N := 27) (ci := 11) (ref := RX12) (ty := (.array .int)) inlX12 tyX12 tyX12_ok nmX12 rfl 23 (by decide) (in_r11 (List.mem_of_getElem? (i := 14) rfl)) rfl rfl hin rfl rfl hd q0 hq hlen rfl rfl hw k
theorem gf_X12_41 (C : CX g RX12 cc nL ret A p s m args meth c) {a : Nat} {fs : List Value} {v : Value} (hd : decode cc pc = .ok (.getfield 41, 3)) (q0 : Nat) (hq : ws[q0]? = some (a, oB 11 fs)) (hv : fs[25]? = some v) (k : RUN g nL p l e R s m args below meth c A cells slots Q ws (pc + 3) lv (v :: st)) : RUN g nL p l e R s m args below meth c A cells slots Q ws pc lv (.ref a :: st) := r_get C (C' := RX12) (T := TX12) (N := 27) (ci := 11) (ref := RX12) inlX12 rfl 25 (by decide) (in_r11 (List.mem_of_getElem? (i := 15) rfl)) rfl hd q0 hq hv k
theorem pf_X12_41 (C : CX g RX12 cc nL ret A p s m args meth c) {a : Nat} {fs : List Value} {b : Nat} {ws' : va_W} (hin : meth.name = "<init>") (hd : decode cc pc = .ok (.putfield 41, 3)) (q0 : Nat) (hq : ws[q0]? = some (a, oB 11 fs)) (hlen : 25 < fs.length) (hw : ws.set q0 (a, oB 11 (fs.set 25 (.ref b))) = ws') (k : RUN g nL p l e R s m args below meth c A cells slots Q ws' (pc + 3) lv st) : RUN g nL p l e R s m args below meth c A cells slots Q ws pc lv (.ref b :: .ref a :: st) := r_putF (host := RX11) C (C' := RX12) (T := TX12) (N := 27) (ci := 11) (ref := RX12) (ty := (.array .int)) inlX12 tyX12 tyX12_ok nmX12 rfl 25 (by decide) (in_r11 (List.mem_of_getElem? (i := 15) rfl)) rfl rfl hin rfl rfl hd q0 hq hlen rfl rfl hw k
theorem gf_X12_44 (C : CX g RX12 cc nL ret A p s m args meth c) {a : Nat} {fs : List Value} {v : Value} (hd : decode cc pc = .ok (.getfield 44, 3)) (q0 : Nat) (hq : ws[q0]? = some (a, oB 11 fs)) (hv : fs[0]? = some v) (k : RUN g nL p l e R s m args below meth c A cells slots Q ws (pc + 3) lv (v :: st)) : RUN g nL p l e R s m args below meth c A cells slots Q ws pc lv (.ref a :: st) := r_get C (C' := RX12) (T := TX12) (N := 27) (ci := 11) (ref := RX12) inlX12 rfl 0 (by decide) (in_r11 (List.mem_of_getElem? (i := 16) rfl)) rfl hd q0 hq hv k
theorem pf_X12_44 (C : CX g RX12 cc nL ret A p s m args meth c) {a : Nat} {fs : List Value} {x : Int} {ws' : va_W} (hd : decode cc pc = .ok (.putfield 44, 3)) (q0 : Nat) (hq : ws[q0]? = some (a, oB 11 fs)) (hlen : 0 < fs.length) (hw : ws.set q0 (a, oB 11 (fs.set 0 (vi x))) = ws') (k : RUN g nL p l e R s m args below meth c A cells slots Q ws' (pc + 3) lv st) : RUN g nL p l e R s m args below meth c A cells slots Q ws pc lv (vi x :: .ref a :: st) := r_put (host := RX11) C (C' := RX12) (T := TX12) (N := 27) (ci := 11) (ref := RX12) (ty := .int) inlX12 tyX12 tyX12_ok nmX12 rfl 0 (by decide) (in_r11 (List.mem_of_getElem? (i := 16) rfl)) rfl rfl rfl hd q0 hq hlen (vp_nar_int _) rfl hw k
theorem gf_X12_47 (C : CX g RX12 cc nL ret A p s m args meth c) {a : Nat} {fs : List Value} {v : Value} (hd : decode cc pc = .ok (.getfield 47, 3)) (q0 : Nat) (hq : ws[q0]? = some (a, oB 11 fs)) (hv : fs[1]? = some v) (k : RUN g nL p l e R s m args below meth c A cells slots Q ws (pc + 3) lv (v :: st)) : RUN g nL p l e R s m args below meth c A cells slots Q ws pc lv (.ref a :: st) := r_get C (C' := RX12) (T := TX12) (N := 27) (ci := 11) (ref := RX12) inlX12 rfl 1 (by decide) (in_r11 (List.mem_of_getElem? (i := 17) rfl)) rfl hd q0 hq hv k
theorem pf_X12_47 (C : CX g RX12 cc nL ret A p s m args meth c) {a : Nat} {fs : List Value} {x : Int} {ws' : va_W} (hd : decode cc pc = .ok (.putfield 47, 3)) (q0 : Nat) (hq : ws[q0]? = some (a, oB 11 fs)) (hlen : 1 < fs.length) (hw : ws.set q0 (a, oB 11 (fs.set 1 (vi x))) = ws') (k : RUN g nL p l e R s m args below meth c A cells slots Q ws' (pc + 3) lv st) : RUN g nL p l e R s m args below meth c A cells slots Q ws pc lv (vi x :: .ref a :: st) := r_put (host := RX11) C (C' := RX12) (T := TX12) (N := 27) (ci := 11) (ref := RX12) (ty := .int) inlX12 tyX12 tyX12_ok nmX12 rfl 1 (by decide) (in_r11 (List.mem_of_getElem? (i := 17) rfl)) rfl rfl rfl hd q0 hq hlen (vp_nar_int _) rfl hw k
theorem gf_X12_62 (C : CX g RX12 cc nL ret A p s m args meth c) {a : Nat} {fs : List Value} {v : Value} (hd : decode cc pc = .ok (.getfield 62, 3)) (q0 : Nat) (hq : ws[q0]? = some (a, oB 11 fs)) (hv : fs[11]? = some v) (k : RUN g nL p l e R s m args below meth c A cells slots Q ws (pc + 3) lv (v :: st)) : RUN g nL p l e R s m args below meth c A cells slots Q ws pc lv (.ref a :: st) := r_get C (C' := RX12) (T := TX12) (N := 27) (ci := 11) (ref := RX12) inlX12 rfl 11 (by decide) (in_r12 (List.mem_of_getElem? (i := 8) rfl)) rfl hd q0 hq hv k
theorem pf_X12_62 (C : CX g RX12 cc nL ret A p s m args meth c) {a : Nat} {fs : List Value} {x : Int} {ws' : va_W} (hd : decode cc pc = .ok (.putfield 62, 3)) (q0 : Nat) (hq : ws[q0]? = some (a, oB 11 fs)) (hlen : 11 < fs.length) (hw : ws.set q0 (a, oB 11 (fs.set 11 (vi x))) = ws') (k : RUN g nL p l e R s m args below meth c A cells slots Q ws' (pc + 3) lv st) : RUN g nL p l e R s m args below meth c A cells slots Q ws pc lv (vi x :: .ref a :: st) := r_put (host := RX11) C (C' := RX12) (T := TX12) (N := 27) (ci := 11) (ref := RX12) (ty := .int) inlX12 tyX12 tyX12_ok nmX12 rfl 11 (by decide) (in_r12 (List.mem_of_getElem? (i := 8) rfl)) rfl rfl rfl hd q0 hq hlen (vp_nar_int _) rfl hw k
theorem gf_X12_72 (C : CX g RX12 cc nL ret A p s m args meth c) {a : Nat} {fs : List Value} {v : Value} (hd : decode cc pc = .ok (.getfield 72, 3)) (q0 : Nat) (hq : ws[q0]? = some (a, oB 11 fs)) (hv : fs[12]? = some v) (k : RUN g nL p l e R s m args below meth c A cells slots Q ws (pc + 3) lv (v :: st)) : RUN g nL p l e R s m args below meth c A cells slots Q ws pc lv (.ref a :: st) := r_get C (C' := RX12) (T := TX12) (N := 27) (ci := 11) (ref := RX12) inlX12 rfl 12 (by decide) (in_r13 (List.mem_of_getElem? (i := 13) rfl)) rfl hd q0 hq hv k
theorem pf_X12_72 (C : CX g RX12 cc nL ret A p s m args meth c) {a : Nat} {fs : List Value} {x : Int} {ws' : va_W} (hd : decode cc pc = .ok (.putfield 72, 3)) (q0 : Nat) (hq : ws[q0]? = some (a, oB 11 fs)) (hlen : 12 < fs.length) (hw : ws.set q0 (a, oB 11 (fs.set 12 (vi x))) = ws') (k : RUN g nL p l e R s m args below meth c A cells slots Q ws' (pc + 3) lv st) : RUN g nL p l e R s m args below meth c A cells slots Q ws pc lv (vi x :: .ref a :: st) := r_put (host := RX11) C (C' := RX12) (T := TX12) (N := 27) (ci := 11) (ref := RX12) (ty := .int) inlX12 tyX12 tyX12_ok nmX12 rfl 12 (by decide) (in_r13 (List.mem_of_getElem? (i := 13) rfl)) rfl rfl rfl hd q0 hq hlen (vp_nar_int _) rfl hw k
theorem gf_X12_75 (C : CX g RX12 cc nL ret A p s m args meth c) {a : Nat} {fs : List Value} {v : Value} (hd : decode cc pc = .ok (.getfield 75, 3)) (q0 : Nat) (hq : ws[q0]? = some (a, oB 11 fs)) (hv : fs[13]? = some v) (k : RUN g nL p l e R s m args below meth c A cells slots Q ws (pc + 3) lv (v :: st)) : RUN g nL p l e R s m args below meth c A cells slots Q ws pc lv (.ref a :: st) := r_get C (C' := RX12) (T := TX12) (N := 27) (ci := 11) (ref := RX12) inlX12 rfl 13 (by decide) (in_r13 (List.mem_of_getElem? (i := 22) rfl)) rfl hd q0 hq hv k
theorem pf_X12_75 (C : CX g RX12 cc nL ret A p s m args meth c) {a : Nat} {fs : List Value} {x : Int} {ws' : va_W} (hd : decode cc pc = .ok (.putfield 75, 3)) (q0 : Nat) (hq : ws[q0]? = some (a, oB 11 fs)) (hlen : 13 < fs.length) (hw : ws.set q0 (a, oB 11 (fs.set 13 (vi x))) = ws') (k : RUN g nL p l e R s m args below meth c A cells slots Q ws' (pc + 3) lv st) : RUN g nL p l e R s m args below meth c A cells slots Q ws pc lv (vi x :: .ref a :: st) := r_put (host := RX11) C (C' := RX12) (T := TX12) (N := 27) (ci := 11) (ref := RX12) (ty := .int) inlX12 tyX12 tyX12_ok nmX12 rfl 13 (by decide) (in_r13 (List.mem_of_getElem? (i := 22) rfl)) rfl rfl rfl hd q0 hq hlen (vp_nar_int _) rfl hw k
theorem gf_X12_78 (C : CX g RX12 cc nL ret A p s m args meth c) {a : Nat} {fs : List Value} {v : Value} (hd : decode cc pc = .ok (.getfield 78, 3)) (q0 : Nat) (hq : ws[q0]? = some (a, oB 11 fs)) (hv : fs[14]? = some v) (k : RUN g nL p l e R s m args below meth c A cells slots Q ws (pc + 3) lv (v :: st)) : RUN g nL p l e R s m args below meth c A cells slots Q ws pc lv (.ref a :: st) := r_get C (C' := RX12) (T := TX12) (N := 27) (ci := 11) (ref := RX12) inlX12 rfl 14 (by decide) (in_r13 (List.mem_of_getElem? (i := 8) rfl)) rfl hd q0 hq hv k
theorem pf_X12_78 (C : CX g RX12 cc nL ret A p s m args meth c) {a : Nat} {fs : List Value} {x : Int} {ws' : va_W} (hd : decode cc pc = .ok (.putfield 78, 3)) (q0 : Nat) (hq : ws[q0]? = some (a, oB 11 fs)) (hlen : 14 < fs.length) (hw : ws.set q0 (a, oB 11 (fs.set 14 (vi x))) = ws') (k : RUN g nL p l e R s m args below meth c A cells slots Q ws' (pc + 3) lv st) : RUN g nL p l e R s m args below meth c A cells slots Q ws pc lv (vi x :: .ref a :: st) := r_put (host := RX11) C (C' := RX12) (T := TX12) (N := 27) (ci := 11) (ref := RX12) (ty := .int) inlX12 tyX12 tyX12_ok nmX12 rfl 14 (by decide) (in_r13 (List.mem_of_getElem? (i := 8) rfl)) rfl rfl rfl hd q0 hq hlen (vp_nar_int _) rfl hw k
theorem gf_X12_105 (C : CX g RX12 cc nL ret A p s m args meth c) {a : Nat} {fs : List Value} {v : Value} (hd : decode cc pc = .ok (.getfield 105, 3)) (q0 : Nat) (hq : ws[q0]? = some (a, oB 11 fs)) (hv : fs[4]? = some v) (k : RUN g nL p l e R s m args below meth c A cells slots Q ws (pc + 3) lv (v :: st)) : RUN g nL p l e R s m args below meth c A cells slots Q ws pc lv (.ref a :: st) := r_get C (C' := RX12) (T := TX12) (N := 27) (ci := 11) (ref := RX12) inlX12 rfl 4 (by decide) (in_r15 (List.mem_of_getElem? (i := 20) rfl)) rfl hd q0 hq hv k
theorem pf_X12_105 (C : CX g RX12 cc nL ret A p s m args meth c) {a : Nat} {fs : List Value} {x : Int} {ws' : va_W} (hd : decode cc pc = .ok (.putfield 105, 3)) (q0 : Nat) (hq : ws[q0]? = some (a, oB 11 fs)) (hlen : 4 < fs.length) (hw : ws.set q0 (a, oB 11 (fs.set 4 (vi x))) = ws') (k : RUN g nL p l e R s m args below meth c A cells slots Q ws' (pc + 3) lv st) : RUN g nL p l e R s m args below meth c A cells slots Q ws pc lv (vi x :: .ref a :: st) := r_put (host := RX11) C (C' := RX12) (T := TX12) (N := 27) (ci := 11) (ref := RX12) (ty := .int) inlX12 tyX12 tyX12_ok nmX12 rfl 4 (by decide) (in_r15 (List.mem_of_getElem? (i := 20) rfl)) rfl rfl rfl hd q0 hq hlen (vp_nar_int _) rfl hw k
theorem gf_X12_108 (C : CX g RX12 cc nL ret A p s m args meth c) {a : Nat} {fs : List Value} {v : Value} (hd : decode cc pc = .ok (.getfield 108, 3)) (q0 : Nat) (hq : ws[q0]? = some (a, oB 11 fs)) (hv : fs[8]? = some v) (k : RUN g nL p l e R s m args below meth c A cells slots Q ws (pc + 3) lv (v :: st)) : RUN g nL p l e R s m args below meth c A cells slots Q ws pc lv (.ref a :: st) := r_get C (C' := RX12) (T := TX12) (N := 27) (ci := 11) (ref := RX12) inlX12 rfl 8 (by decide) (in_r15 (List.mem_of_getElem? (i := 21) rfl)) rfl hd q0 hq hv k
theorem pf_X12_108 (C : CX g RX12 cc nL ret A p s m args meth c) {a : Nat} {fs : List Value} {x : Int} {ws' : va_W} (hd : decode cc pc = .ok (.putfield 108, 3)) (q0 : Nat) (hq : ws[q0]? = some (a, oB 11 fs)) (hlen : 8 < fs.length) (hw : ws.set q0 (a, oB 11 (fs.set 8 (vi x))) = ws') (k : RUN g nL p l e R s m args below meth c A cells slots Q ws' (pc + 3) lv st) : RUN g nL p l e R s m args below meth c A cells slots Q ws pc lv (vi x :: .ref a :: st) := r_put (host := RX11) C (C' := RX12) (T := TX12) (N := 27) (ci := 11) (ref := RX12) (ty := .int) inlX12 tyX12 tyX12_ok nmX12 rfl 8 (by decide) (in_r15 (List.mem_of_getElem? (i := 21) rfl)) rfl rfl rfl hd q0 hq hlen (vp_nar_int _) rfl hw k
theorem gf_X12_111 (C : CX g RX12 cc nL ret A p s m args meth c) {a : Nat} {fs : List Value} {v : Value} (hd : decode cc pc = .ok (.getfield 111, 3)) (q0 : Nat) (hq : ws[q0]? = some (a, oB 11 fs)) (hv : fs[9]? = some v) (k : RUN g nL p l e R s m args below meth c A cells slots Q ws (pc + 3) lv (v :: st)) : RUN g nL p l e R s m args below meth c A cells slots Q ws pc lv (.ref a :: st) := r_get C (C' := RX12) (T := TX12) (N := 27) (ci := 11) (ref := RX12) inlX12 rfl 9 (by decide) (in_r15 (List.mem_of_getElem? (i := 22) rfl)) rfl hd q0 hq hv k
theorem pf_X12_111 (C : CX g RX12 cc nL ret A p s m args meth c) {a : Nat} {fs : List Value} {x : Int} {ws' : va_W} (hd : decode cc pc = .ok (.putfield 111, 3)) (q0 : Nat) (hq : ws[q0]? = some (a, oB 11 fs)) (hlen : 9 < fs.length) (hw : ws.set q0 (a, oB 11 (fs.set 9 (vi x))) = ws') (k : RUN g nL p l e R s m args below meth c A cells slots Q ws' (pc + 3) lv st) : RUN g nL p l e R s m args below meth c A cells slots Q ws pc lv (vi x :: .ref a :: st) := r_put (host := RX11) C (C' := RX12) (T := TX12) (N := 27) (ci := 11) (ref := RX12) (ty := .int) inlX12 tyX12 tyX12_ok nmX12 rfl 9 (by decide) (in_r15 (List.mem_of_getElem? (i := 22) rfl)) rfl rfl rfl hd q0 hq hlen (vp_nar_int _) rfl hw k
theorem gf_X12_117 (C : CX g RX12 cc nL ret A p s m args meth c) {a : Nat} {fs : List Value} {v : Value} (hd : decode cc pc = .ok (.getfield 117, 3)) (q0 : Nat) (hq : ws[q0]? = some (a, oB 11 fs)) (hv : fs[5]? = some v) (k : RUN g nL p l e R s m args below meth c A cells slots Q ws (pc + 3) lv (v :: st)) : RUN g nL p l e R s m args below meth c A cells slots Q ws pc lv (.ref a :: st) := r_get C (C' := RX12) (T := TX12) (N := 27) (ci := 11) (ref := RX12) inlX12 rfl 5 (by decide) (in_r17 (List.mem_of_getElem? (i := 22) rfl)) rfl hd q0 hq hv k
theorem pf_X12_117 (C : CX g RX12 cc nL ret A p s m args meth c) {a : Nat} {fs : List Value} {x : Int} {ws' : va_W} (hd : decode cc pc = .ok (.putfield 117, 3)) (q0 : Nat) (hq : ws[q0]? = some (a, oB 11 fs)) (hlen : 5 < fs.length) (hw : ws.set q0 (a, oB 11 (fs.set 5 (vi x))) = ws') (k : RUN g nL p l e R s m args below meth c A cells slots Q ws' (pc + 3) lv st) : RUN g nL p l e R s m args below meth c A cells slots Q ws pc lv (vi x :: .ref a :: st) := r_put (host := RX11) C (C' := RX12) (T := TX12) (N := 27) (ci := 11) (ref := RX12) (ty := .int) inlX12 tyX12 tyX12_ok nmX12 rfl 5 (by decide) (in_r17 (List.mem_of_getElem? (i := 22) rfl)) rfl rfl rfl hd q0 hq hlen (vp_nar_int _) rfl hw k
theorem gf_X12_149 (C : CX g RX12 cc nL ret A p s m args meth c) {a : Nat} {fs : List Value} {v : Value} (hd : decode cc pc = .ok (.getfield 149, 3)) (q0 : Nat) (hq : ws[q0]? = some (a, oB 11 fs)) (hv : fs[19]? = some v) (k : RUN g nL p l e R s m args below meth c A cells slots Q ws (pc + 3) lv (v :: st)) : RUN g nL p l e R s m args below meth c A cells slots Q ws pc lv (.ref a :: st) := r_get C (C' := RX12) (T := TX12) (N := 27) (ci := 11) (ref := RX12) inlX12 rfl 19 (by decide) (in_r26 (List.mem_of_getElem? (i := 6) rfl)) rfl hd q0 hq hv k
theorem pf_X12_149 (C : CX g RX12 cc nL ret A p s m args meth c) {a : Nat} {fs : List Value} {x : Int} {ws' : va_W} (hd : decode cc pc = .ok (.putfield 149, 3)) (q0 : Nat) (hq : ws[q0]? = some (a, oB 11 fs)) (hlen : 19 < fs.length) (hw : ws.set q0 (a, oB 11 (fs.set 19 (vi x))) = ws') (k : RUN g nL p l e R s m args below meth c A cells slots Q ws' (pc + 3) lv st) : RUN g nL p l e R s m args below meth c A cells slots Q ws pc lv (vi x :: .ref a :: st) := r_put (host := RX11) C (C' := RX12) (T := TX12) (N := 27) (ci := 11) (ref := RX12) (ty := .int) inlX12 tyX12 tyX12_ok nmX12 rfl 19 (by decide) (in_r26 (List.mem_of_getElem? (i := 6) rfl)) rfl rfl rfl hd q0 hq hlen (vp_nar_int _) rfl hw k
theorem gf_X12_152 (C : CX g RX12 cc nL ret A p s m args meth c) {a : Nat} {fs : List Value} {v : Value} (hd : decode cc pc = .ok (.getfield 152, 3)) (q0 : Nat) (hq : ws[q0]? = some (a, oB 11 fs)) (hv : fs[20]? = some v) (k : RUN g nL p l e R s m args below meth c A cells slots Q ws (pc + 3) lv (v :: st)) : RUN g nL p l e R s m args below meth c A cells slots Q ws pc lv (.ref a :: st) := r_get C (C' := RX12) (T := TX12) (N := 27) (ci := 11) (ref := RX12) inlX12 rfl 20 (by decide) (in_r26 (List.mem_of_getElem? (i := 7) rfl)) rfl hd q0 hq hv k
theorem pf_X12_152 (C : CX g RX12 cc nL ret A p s m args meth c) {a : Nat} {fs : List Value} {x : Int} {ws' : va_W} (hd : decode cc pc = .ok (.putfield 152, 3)) (q0 : Nat) (hq : ws[q0]? = some (a, oB 11 fs)) (hlen : 20 < fs.length) (hw : ws.set q0 (a, oB 11 (fs.set 20 (vi x))) = ws') (k : RUN g nL p l e R s m args below meth c A cells slots Q ws' (pc + 3) lv st) : RUN g nL p l e R s m args below meth c A cells slots Q ws pc lv (vi x :: .ref a :: st) := r_put (host := RX11) C (C' := RX12) (T := TX12) (N := 27) (ci := 11) (ref := RX12) (ty := .int) inlX12 tyX12 tyX12_ok nmX12 rfl 20 (by decide) (in_r26 (List.mem_of_getElem? (i := 7) rfl)) rfl rfl rfl hd q0 hq hlen (vp_nar_int _) rfl hw k
theorem gf_X12_155 (C : CX g RX12 cc nL ret A p s m args meth c) {a : Nat} {fs : List Value} {v : Value} (hd : decode cc pc = .ok (.getfield 155, 3)) (q0 : Nat) (hq : ws[q0]? = some (a, oB 11 fs)) (hv : fs[22]? = some v) (k : RUN g nL p l e R s m args below meth c A cells slots Q ws (pc + 3) lv (v :: st)) : RUN g nL p l e R s m args below meth c A cells slots Q ws pc lv (.ref a :: st) := r_get C (C' := RX12) (T := TX12) (N := 27) (ci := 11) (ref := RX12) inlX12 rfl 22 (by decide) (in_r26 (List.mem_of_getElem? (i := 9) rfl)) rfl hd q0 hq hv k
theorem pf_X12_155 (C : CX g RX12 cc nL ret A p s m args meth c) {a : Nat} {fs : List Value} {x : Int} {ws' : va_W} (hd : decode cc pc = .ok (.putfield 155, 3)) (q0 : Nat) (hq : ws[q0]? = some (a, oB 11 fs)) (hlen : 22 < fs.length) (hw : ws.set q0 (a, oB 11 (fs.set 22 (vi x))) = ws') (k : RUN g nL p l e R s m args below meth c A cells slots Q ws' (pc + 3) lv st) : RUN g nL p l e R s m args below meth c A cells slots Q ws pc lv (vi x :: .ref a :: st) := r_put (host := RX11) C (C' := RX12) (T := TX12) (N := 27) (ci := 11) (ref := RX12) (ty := .int) inlX12 tyX12 tyX12_ok nmX12 rfl 22 (by decide) (in_r26 (List.mem_of_getElem? (i := 9) rfl)) rfl rfl rfl hd q0 hq hlen (vp_nar_int _) rfl hw k
theorem gf_X12_158 (C : CX g RX12 cc nL ret A p s m args meth c) {a : Nat} {fs : List Value} {v : Value} (hd : decode cc pc = .ok (.getfield 158, 3)) (q0 : Nat) (hq : ws[q0]? = some (a, oB 11 fs)) (hv : fs[21]? = some v) (k : RUN g nL p l e R s m args below meth c A cells slots Q ws (pc + 3) lv (v :: st)) : RUN g nL p l e R s m args below meth c A cells slots Q ws pc lv (.ref a :: st) := r_get C (C' := RX12) (T := TX12) (N := 27) (ci := 11) (ref := RX12) inlX12 rfl 21 (by decide) (in_r26 (List.mem_of_getElem? (i := 8) rfl)) rfl hd q0 hq hv k
theorem pf_X12_158 (C : CX g RX12 cc nL ret A p s m args meth c) {a : Nat} {fs : List Value} {x : Int} {ws' : va_W} (hd : decode cc pc = .ok (.putfield 158, 3)) (q0 : Nat) (hq : ws[q0]? = some (a, oB 11 fs)) (hlen : 21 < fs.length) (hw : ws.set q0 (a, oB 11 (fs.set 21 (vi x))) = ws') (k : RUN g nL p l e R s m args below meth c A cells slots Q ws' (pc + 3) lv st) : RUN g nL p l e R s m args below meth c A cells slots Q ws pc lv (vi x :: .ref a :: st) := r_put (host := RX11) C (C' := RX12) (T := TX12) (N := 27) (ci := 11) (ref := RX12) (ty := .int) inlX12 tyX12 tyX12_ok nmX12 rfl 21 (by decide) (in_r26 (List.mem_of_getElem? (i := 8) rfl)) rfl rfl rfl hd q0 hq hlen (vp_nar_int _) rfl hw k
theorem gf_X12_177 (C : CX g RX12 cc nL ret A p s m args meth c) {a : Nat} {fs : List Value} {v : Value} (hd : decode cc pc = .ok (.getfield 177, 3)) (q0 : Nat) (hq : ws[q0]? = some (a, oB 11 fs)) (hv : fs[24]? = some v) (k : RUN g nL p l e R s m args below meth c A cells slots Q ws (pc + 3) lv (v :: st)) : RUN g nL p l e R s m args below meth c A cells slots Q ws pc lv (.ref a :: st) := r_get C (C' := RX12) (T := TX12) (N := 27) (ci := 11) (ref := RX12) inlX12 rfl 24 (by decide) (in_r31 (List.mem_of_getElem? (i := 2) rfl)) rfl hd q0 hq hv k
theorem pf_X12_177 (C : CX g RX12 cc nL ret A p s m args meth c) {a : Nat} {fs : List Value} {x : Int} {ws' : va_W} (hd : decode cc pc = .ok (.putfield 177, 3)) (q0 : Nat) (hq : ws[q0]? = some (a, oB 11 fs)) (hlen : 24 < fs.length) (hw : ws.set q0 (a, oB 11 (fs.set 24 (vi x))) = ws') (k : RUN g nL p l e R s m args below meth c A cells slots Q ws' (pc + 3) lv st) : RUN g nL p l e R s m args below meth c A cells slots Q ws pc lv (vi x :: .ref a :: st) := r_put (host := RX11) C (C' := RX12) (T := TX12) (N := 27) (ci := 11) (ref := RX12) (ty := .int) inlX12 tyX12 tyX12_ok nmX12 rfl 24 (by decide) (in_r31 (List.mem_of_getElem? (i := 2) rfl)) rfl rfl rfl hd q0 hq hlen (vp_nar_int _) rfl hw k
theorem gf_X12_180 (C : CX g RX12 cc nL ret A p s m args meth c) {a : Nat} {fs : List Value} {v : Value} (hd : decode cc pc = .ok (.getfield 180, 3)) (q0 : Nat) (hq : ws[q0]? = some (a, oB 11 fs)) (hv : fs[26]? = some v) (k : RUN g nL p l e R s m args below meth c A cells slots Q ws (pc + 3) lv (v :: st)) : RUN g nL p l e R s m args below meth c A cells slots Q ws pc lv (.ref a :: st) := r_get C (C' := RX12) (T := TX12) (N := 27) (ci := 11) (ref := RX12) inlX12 rfl 26 (by decide) (in_r30 (List.mem_of_getElem? (i := 21) rfl)) rfl hd q0 hq hv k
theorem pf_X12_180 (C : CX g RX12 cc nL ret A p s m args meth c) {a : Nat} {fs : List Value} {x : Int} {ws' : va_W} (hd : decode cc pc = .ok (.putfield 180, 3)) (q0 : Nat) (hq : ws[q0]? = some (a, oB 11 fs)) (hlen : 26 < fs.length) (hw : ws.set q0 (a, oB 11 (fs.set 26 (vi x))) = ws') (k : RUN g nL p l e R s m args below meth c A cells slots Q ws' (pc + 3) lv st) : RUN g nL p l e R s m args below meth c A cells slots Q ws pc lv (vi x :: .ref a :: st) := r_put (host := RX11) C (C' := RX12) (T := TX12) (N := 27) (ci := 11) (ref := RX12) (ty := .int) inlX12 tyX12 tyX12_ok nmX12 rfl 26 (by decide) (in_r30 (List.mem_of_getElem? (i := 21) rfl)) rfl rfl rfl hd q0 hq hlen (vp_nar_int _) rfl hw k
theorem gf_X2_7 (C : CX g RX2 cc nL ret A p s m args meth c) {a : Nat} {fs : List Value} {v : Value} (hd : decode cc pc = .ok (.getfield 7, 3)) (q0 : Nat) (hq : ws[q0]? = some (a, oB 2 fs)) (hv : fs[0]? = some v) (k : RUN g nL p l e R s m args below meth c A cells slots Q ws (pc + 3) lv (v :: st)) : RUN g nL p l e R s m args below meth c A cells slots Q ws pc lv (.ref a :: st) := r_get C (C' := RX2) (T := TX2) (N := 4) (ci := 2) (ref := RX2) inlX2 rfl 0 (by decide) (in_r6 (List.mem_of_getElem? (i := 11) rfl)) rfl hd q0 hq hv k
theorem pf_X2_7 (C : CX g RX2 cc nL ret A p s m args meth c) {a : Nat} {fs : List Value} {x : Int} {ws' : va_W} (hd : decode cc pc = .ok (.putfield 7, 3)) (q0 : Nat) (hq : ws[q0]? = some (a, oB 2 fs)) (hlen : 0 < fs.length) (hw : ws.set q0 (a, oB 2 (fs.set 0 (vi x))) = ws') (k : RUN g nL p l e R s m args below meth c A cells slots Q ws' (pc + 3) lv st) : RUN g nL p l e R s m args below meth c A cells slots Q ws pc lv (vi x :: .ref a :: st) := r_put (host := RX11) C (C' := RX2) (T := TX2) (N := 4) (ci := 2) (ref := RX2) (ty := .int) inlX2 tyX2 tyX2_ok nmX2 rfl 0 (by decide) (in_r6 (List.mem_of_getElem? (i := 11) rfl)) rfl rfl rfl hd q0 hq hlen (vp_nar_int _) rfl hw k
theorem gf_X2_13 (C : CX g RX2 cc nL ret A p s m args meth c) {a : Nat} {fs : List Value} {v : Value} (hd : decode cc pc = .ok (.getfield 13, 3)) (q0 : Nat) (hq : ws[q0]? = some (a, oB 2 fs)) (hv : fs[1]? = some v) (k : RUN g nL p l e R s m args below meth c A cells slots Q ws (pc + 3) lv (v :: st)) : RUN g nL p l e R s m args below meth c A cells slots Q ws pc lv (.ref a :: st) := r_get C (C' := RX2) (T := TX2) (N := 4) (ci := 2) (ref := RX2) inlX2 rfl 1 (by decide) (in_r6 (List.mem_of_getElem? (i := 12) rfl)) rfl hd q0 hq hv k
theorem pf_X2_13 (C : CX g RX2 cc nL ret A p s m args meth c) {a : Nat} {fs : List Value} {x : Int} {ws' : va_W} (hd : decode cc pc = .ok (.putfield 13, 3)) (q0 : Nat) (hq : ws[q0]? = some (a, oB 2 fs)) (hlen : 1 < fs.length) (hw : ws.set q0 (a, oB 2 (fs.set 1 (vi x))) = ws') (k : RUN g nL p l e R s m args below meth c A cells slots Q ws' (pc + 3) lv st) : RUN g nL p l e R s m args below meth c A cells slots Q ws pc lv (vi x :: .ref a :: st) := r_put (host := RX11) C (C' := RX2) (T := TX2) (N := 4) (ci := 2) (ref := RX2) (ty := .int) inlX2 tyX2 tyX2_ok nmX2 rfl 1 (by decide) (in_r6 (List.mem_of_getElem? (i := 12) rfl)) rfl rfl rfl hd q0 hq hlen (vp_nar_int _) rfl hw k
theorem gf_X2_16 (C : CX g RX2 cc nL ret A p s m args meth c) {a : Nat} {fs : List Value} {v : Value} (hd : decode cc pc = .ok (.getfield 16, 3)) (q0 : Nat) (hq : ws[q0]? = some (a, oB 2 fs)) (hv : fs[2]? = some v) (k : RUN g nL p l e R s m args below meth c A cells slots Q ws (pc + 3) lv (v :: st)) : RUN g nL p l e R s m args below meth c A cells slots Q ws pc lv (.ref a :: st) := r_get C (C' := RX2) (T := TX2) (N := 4) (ci := 2) (ref := RX2) inlX2 rfl 2 (by decide) (in_r6 (List.mem_of_getElem? (i := 13) rfl)) rfl hd q0 hq hv k
theorem pf_X2_16 (C : CX g RX2 cc nL ret A p s m args meth c) {a : Nat} {fs : List Value} {x : Int} {ws' : va_W} (hd : decode cc pc = .ok (.putfield 16, 3)) (q0 : Nat) (hq : ws[q0]? = some (a, oB 2 fs)) (hlen : 2 < fs.length) (hw : ws.set q0 (a, oB 2 (fs.set 2 (vi x))) = ws') (k : RUN g nL p l e R s m args below meth c A cells slots Q ws' (pc + 3) lv st) : RUN g nL p l e R s m args below meth c A cells slots Q ws pc lv (vi x :: .ref a :: st) := r_put (host := RX11) C (C' := RX2) (T := TX2) (N := 4) (ci := 2) (ref := RX2) (ty := .int) inlX2 tyX2 tyX2_ok nmX2 rfl 2 (by decide) (in_r6 (List.mem_of_getElem? (i := 13) rfl)) rfl rfl rfl hd q0 hq hlen (vp_nar_int _) rfl hw k
theorem gf_X2_19 (C : CX g RX2 cc nL ret A p s m args meth c) {a : Nat} {fs : List Value} {v : Value} (hd : decode cc pc = .ok (.getfield 19, 3)) (q0 : Nat) (hq : ws[q0]? = some (a, oB 2 fs)) (hv : fs[3]? = some v) (k : RUN g nL p l e R s m args below meth c A cells slots Q ws (pc + 3) lv (v :: st)) : RUN g nL p l e R s m args below meth c A cells slots Q ws pc lv (.ref a :: st) := r_get C (C' := RX2) (T := TX2) (N := 4) (ci := 2) (ref := RX2) inlX2 rfl 3 (by decide) (in_r6 (List.mem_of_getElem? (i := 14) rfl)) rfl hd q0 hq hv k
theorem pf_X2_19 (C : CX g RX2 cc nL ret A p s m args meth c) {a : Nat} {fs : List Value} {x : Int} {ws' : va_W} (hd : decode cc pc = .ok (.putfield 19, 3)) (q0 : Nat) (hq : ws[q0]? = some (a, oB 2 fs)) (hlen : 3 < fs.length) (hw : ws.set q0 (a, oB 2 (fs.set 3 (vi x))) = ws') (k : RUN g nL p l e R s m args below meth c A cells slots Q ws' (pc + 3) lv st) : RUN g nL p l e R s m args below meth c A cells slots Q ws pc lv (vi x :: .ref a :: st) := r_put (host := RX11) C (C' := RX2) (T := TX2) (N := 4) (ci := 2) (ref := RX2) (ty := .int) inlX2 tyX2 tyX2_ok nmX2 rfl 3 (by decide) (in_r6 (List.mem_of_getElem? (i := 14) rfl)) rfl rfl rfl hd q0 hq hlen (vp_nar_int _) rfl hw k
theorem gf_X2_22 (C : CX g RX2 cc nL ret A p s m args meth c) {a : Nat} {fs : List Value} {v : Value} (hd : decode cc pc = .ok (.getfield 22, 3)) (q0 : Nat) (hq : ws[q0]? = some (a, oB 1 fs)) (hv : fs[1]? = some v) (k : RUN g nL p l e R s m args below meth c A cells slots Q ws (pc + 3) lv (v :: st)) : RUN g nL p l e R s m args below meth c A cells slots Q ws pc lv (.ref a :: st) := r_getN (host := RX11) C (C' := RX1) (T := TX1) (N := 3) (ci := 1) (ref := RX1) inlX1 rfl 1 (by decide) (List.mem_of_getElem? (i := 30) rfl) rfl hd q0 hq hv k
theorem pf_X2_22 (C : CX g RX2 cc nL ret A p s m args meth c) {a : Nat} {fs : List Value} {x : Int} {ws' : va_W} (hd : decode cc pc = .ok (.putfield 22, 3)) (q0 : Nat) (hq : ws[q0]? = some (a, oB 1 fs)) (hlen : 1 < fs.length) (hw : ws.set q0 (a, oB 1 (fs.set 1 (vi x))) = ws') (k : RUN g nL p l e R s m args below meth c A cells slots Q ws' (pc + 3) lv st) : RUN g nL p l e R s m args below meth c A cells slots Q ws pc lv (vi x :: .ref a :: st) := r_putN (host := RX11) C (C' := RX1) (T := TX1) (N := 3) (ci := 1) (ref := RX1) (ty := .int) inlX1 tyX1 tyX1_ok nmX1 rfl 1 (by decide) (List.mem_of_getElem? (i := 30) rfl) rfl rfl rfl hd q0 hq hlen (vp_nar_int _) rfl hw k
theorem gf_X2_27 (C : CX g RX2 cc nL ret A p s m args meth c) {a : Nat} {fs : List Value} {v : Value} (hd : decode cc pc = .ok (.getfield 27, 3)) (q0 : Nat) (hq : ws[q0]? = some (a, oB 1 fs)) (hv : fs[2]? = some v) (k : RUN g nL p l e R s m args below meth c A cells slots Q ws (pc + 3) lv (v :: st)) : RUN g nL p l e R s m args below meth c A cells slots Q ws pc lv (.ref a :: st) := r_getN (host := RX11) C (C' := RX1) (T := TX1) (N := 3) (ci := 1) (ref := RX1) inlX1 rfl 2 (by decide) (List.mem_of_getElem? (i := 31) rfl) rfl hd q0 hq hv k
theorem pf_X2_27 (C : CX g RX2 cc nL ret A p s m args meth c) {a : Nat} {fs : List Value} {x : Int} {ws' : va_W} (hd : decode cc pc = .ok (.putfield 27, 3)) (q0 : Nat) (hq : ws[q0]? = some (a, oB 1 fs)) (hlen : 2 < fs.length) (hw : ws.set q0 (a, oB 1 (fs.set 2 (vi x))) = ws') (k : RUN g nL p l e R s m args below meth c A cells slots Q ws' (pc + 3) lv st) : RUN g nL p l e R s m args below meth c A cells slots Q ws pc lv (vi x :: .ref a :: st) := r_putN (host := RX11) C (C' := RX1) (T := TX1) (N := 3) (ci := 1) (ref := RX1) (ty := .int) inlX1 tyX1 tyX1_ok nmX1 rfl 2 (by decide) (List.mem_of_getElem? (i := 31) rfl) rfl rfl rfl hd q0 hq hlen (vp_nar_int _) rfl hw k
theorem gf_X2_36 (C : CX g RX2 cc nL ret A p s m args meth c) {a : Nat} {fs : List Value} {v : Value} (hd : decode cc pc = .ok (.getfield 36, 3)) (q0 : Nat) (hq : ws[q0]? = some (a, oB 8 fs)) (hv : fs[2]? = some v) (k : RUN g nL p l e R s m args below meth c A cells slots Q ws (pc + 3) lv (v :: st)) : RUN g nL p l e R s m args below meth c A cells slots Q ws pc lv (.ref a :: st) := r_getN (host := RX11) C (C' := RX9) (T := TX9) (N := 7) (ci := 8) (ref := RX9) inlX9 rfl 2 (by decide) (List.mem_of_getElem? (i := 38) rfl) rfl hd q0 hq hv k
theorem pf_X2_36 (C : CX g RX2 cc nL ret A p s m args meth c) {a : Nat} {fs : List Value} {x : Int} {ws' : va_W} (hd : decode cc pc = .ok (.putfield 36, 3)) (q0 : Nat) (hq : ws[q0]? = some (a, oB 8 fs)) (hlen : 2 < fs.length) (hw : ws.set q0 (a, oB 8 (fs.set 2 (vi x))) = ws') (k : RUN g nL p l e R s m args below meth c A cells slots Q ws' (pc + 3) lv st) : RUN g nL p l e R s m args below meth c A cells slots Q ws pc lv (vi x :: .ref a :: st) := r_putN (host := RX11) C (C' := RX9) (T := TX9) (N := 7) (ci := 8) (ref := RX9) (ty := .int) inlX9 tyX9 tyX9_ok nmX9 rfl 2 (by decide) (List.mem_of_getElem? (i := 38) rfl) rfl rfl rfl hd q0 hq hlen (vp_nar_int _) rfl hw k
theorem gf_X2_39 (C : CX g RX2 cc nL ret A p s m args meth c) {a : Nat} {fs : List Value} {v : Value} (hd : decode cc pc = .ok (.getfield 39, 3)) (q0 : Nat) (hq : ws[q0]? = some (a, oB 1 fs)) (hv : fs[0]? = some v) (k : RUN g nL p l e R s m args below meth c A cells slots Q ws (pc + 3) lv (v :: st)) : RUN g nL p l e R s m args below meth c A cells slots Q ws pc lv (.ref a :: st) := r_getN (host := RX11) C (C' := RX1) (T := TX1) (N := 3) (ci := 1) (ref := RX1) inlX1 rfl 0 (by decide) (List.mem_of_getElem? (i := 29) rfl) rfl hd q0 hq hv k
theorem gf_X2_43 (C : CX g RX2 cc nL ret A p s m args meth c) {a : Nat} {fs : List Value} {v : Value} (hd : decode cc pc = .ok (.getfield 43, 3)) (q0 : Nat) (hq : ws[q0]? = some (a, oB 8 fs)) (hv : fs[0]? = some v) (k : RUN g nL p l e R s m args below meth c A cells slots Q ws (pc + 3) lv (v :: st)) : RUN g nL p l e R s m args below meth c A cells slots Q ws pc lv (.ref a :: st) := r_getN (host := RX11) C (C' := RX9) (T := TX9) (N := 7) (ci := 8) (ref := RX9) inlX9 rfl 0 (by decide) (List.mem_of_getElem? (i := 32) rfl) rfl hd q0 hq hv k
theorem gf_X2_46 (C : CX g RX2 cc nL ret A p s m args meth c) {a : Nat} {fs : List Value} {v : Value} (hd : decode cc pc = .ok (.getfield 46, 3)) (q0 : Nat) (hq : ws[q0]? = some (a, oB 8 fs)) (hv : fs[1]? = some v) (k : RUN g nL p l e R s m args below meth c A cells slots Q ws (pc + 3) lv (v :: st)) : RUN g nL p l e R s m args below meth c A cells slots Q ws pc lv (.ref a :: st) := r_getN (host := RX11) C (C' := RX9) (T := TX9) (N := 7) (ci := 8) (ref := RX9) inlX9 rfl 1 (by decide) (List.mem_of_getElem? (i := 35) rfl) rfl hd q0 hq hv k
theorem gf_X3_11 (C : CX g RX3 cc nL ret A p s m args meth c) {a : Nat} {fs : List Value} {v : Value} (hd : decode cc pc = .ok (.getfield 11, 3)) (q0 : Nat) (hq : ws[q0]? = some (a, oB 3 fs)) (hv : fs[0]? = some v) (k : RUN g nL p l e R s m args below meth c A cells slots Q ws (pc + 3) lv (v :: st)) : RUN g nL p l e R s m args below meth c A cells slots Q ws pc lv (.ref a :: st) := r_get C (C' := RX3) (T := TX3) (N := 4) (ci := 3) (ref := RX3) inlX3 rfl 0 (by decide) (in_r4 (List.mem_of_getElem? (i := 15) rfl)) rfl hd q0 hq hv k
theorem pf_X3_11 (C : CX g RX3 cc nL ret A p s m args meth c) {a : Nat} {fs : List Value} {b : Nat} {ws' : va_W} (hin : meth.name = "<init>") (hd : decode cc pc = .ok (.putfield 11, 3)) (q0 : Nat) (hq : ws[q0]? = some (a, oB 3 fs)) (hlen : 0 < fs.length) (hw : ws.set q0 (a, oB 3 (fs.set 0 (.ref b))) = ws') (k : RUN g nL p l e R s m args below meth c A cells slots Q ws' (pc + 3) lv st) : RUN g nL p l e R s m args below meth c A cells slots Q ws pc lv (.ref b :: .ref a :: st) := r_putF (host := RX11) C (C' := RX3) (T := TX3) (N := 4) (ci := 3) (ref := RX3) (ty := (.array (.object "EdgeStencil$Scene"))) inlX3 tyX3 tyX3_ok nmX3 rfl 0 (by decide) (in_r4 (List.mem_of_getElem? (i := 15) rfl)) rfl rfl hin rfl rfl hd q0 hq hlen rfl rfl hw k
theorem gf_X3_17 (C : CX g RX3 cc nL ret A p s m args meth c) {a : Nat} {fs : List Value} {v : Value} (hd : decode cc pc = .ok (.getfield 17, 3)) (q0 : Nat) (hq : ws[q0]? = some (a, oB 3 fs)) (hv : fs[1]? = some v) (k : RUN g nL p l e R s m args below meth c A cells slots Q ws (pc + 3) lv (v :: st)) : RUN g nL p l e R s m args below meth c A cells slots Q ws pc lv (.ref a :: st) := r_get C (C' := RX3) (T := TX3) (N := 4) (ci := 3) (ref := RX3) inlX3 rfl 1 (by decide) (in_r4 (List.mem_of_getElem? (i := 16) rfl)) rfl hd q0 hq hv k
theorem pf_X3_17 (C : CX g RX3 cc nL ret A p s m args meth c) {a : Nat} {fs : List Value} {b : Nat} {ws' : va_W} (hin : meth.name = "<init>") (hd : decode cc pc = .ok (.putfield 17, 3)) (q0 : Nat) (hq : ws[q0]? = some (a, oB 3 fs)) (hlen : 1 < fs.length) (hw : ws.set q0 (a, oB 3 (fs.set 1 (.ref b))) = ws') (k : RUN g nL p l e R s m args below meth c A cells slots Q ws' (pc + 3) lv st) : RUN g nL p l e R s m args below meth c A cells slots Q ws pc lv (.ref b :: .ref a :: st) := r_putF (host := RX11) C (C' := RX3) (T := TX3) (N := 4) (ci := 3) (ref := RX3) (ty := (.array .int)) inlX3 tyX3 tyX3_ok nmX3 rfl 1 (by decide) (in_r4 (List.mem_of_getElem? (i := 16) rfl)) rfl rfl hin rfl rfl hd q0 hq hlen rfl rfl hw k
theorem gf_X3_21 (C : CX g RX3 cc nL ret A p s m args meth c) {a : Nat} {fs : List Value} {v : Value} (hd : decode cc pc = .ok (.getfield 21, 3)) (q0 : Nat) (hq : ws[q0]? = some (a, oB 3 fs)) (hv : fs[2]? = some v) (k : RUN g nL p l e R s m args below meth c A cells slots Q ws (pc + 3) lv (v :: st)) : RUN g nL p l e R s m args below meth c A cells slots Q ws pc lv (.ref a :: st) := r_get C (C' := RX3) (T := TX3) (N := 4) (ci := 3) (ref := RX3) inlX3 rfl 2 (by decide) (in_r4 (List.mem_of_getElem? (i := 17) rfl)) rfl hd q0 hq hv k
theorem pf_X3_21 (C : CX g RX3 cc nL ret A p s m args meth c) {a : Nat} {fs : List Value} {x : Int} {ws' : va_W} (hd : decode cc pc = .ok (.putfield 21, 3)) (q0 : Nat) (hq : ws[q0]? = some (a, oB 3 fs)) (hlen : 2 < fs.length) (hw : ws.set q0 (a, oB 3 (fs.set 2 (vi x))) = ws') (k : RUN g nL p l e R s m args below meth c A cells slots Q ws' (pc + 3) lv st) : RUN g nL p l e R s m args below meth c A cells slots Q ws pc lv (vi x :: .ref a :: st) := r_put (host := RX11) C (C' := RX3) (T := TX3) (N := 4) (ci := 3) (ref := RX3) (ty := .int) inlX3 tyX3 tyX3_ok nmX3 rfl 2 (by decide) (in_r4 (List.mem_of_getElem? (i := 17) rfl)) rfl rfl rfl hd q0 hq hlen (vp_nar_int _) rfl hw k
theorem gf_X3_25 (C : CX g RX3 cc nL ret A p s m args meth c) {a : Nat} {fs : List Value} {v : Value} (hd : decode cc pc = .ok (.getfield 25, 3)) (q0 : Nat) (hq : ws[q0]? = some (a, oB 3 fs)) (hv : fs[3]? = some v) (k : RUN g nL p l e R s m args below meth c A cells slots Q ws (pc + 3) lv (v :: st)) : RUN g nL p l e R s m args below meth c A cells slots Q ws pc lv (.ref a :: st) := r_get C (C' := RX3) (T := TX3) (N := 4) (ci := 3) (ref := RX3) inlX3 rfl 3 (by decide) (in_r4 (List.mem_of_getElem? (i := 18) rfl)) rfl hd q0 hq hv k
theorem pf_X3_25 (C : CX g RX3 cc nL ret A p s m args meth c) {a : Nat} {fs : List Value} {x : Int} {ws' : va_W} (hd : decode cc pc = .ok (.putfield 25, 3)) (q0 : Nat) (hq : ws[q0]? = some (a, oB 3 fs)) (hlen : 3 < fs.length) (hw : ws.set q0 (a, oB 3 (fs.set 3 (vi x))) = ws') (k : RUN g nL p l e R s m args below meth c A cells slots Q ws' (pc + 3) lv st) : RUN g nL p l e R s m args below meth c A cells slots Q ws pc lv (vi x :: .ref a :: st) := r_put (host := RX11) C (C' := RX3) (T := TX3) (N := 4) (ci := 3) (ref := RX3) (ty := .int) inlX3 tyX3 tyX3_ok nmX3 rfl 3 (by decide) (in_r4 (List.mem_of_getElem? (i := 18) rfl)) rfl rfl rfl hd q0 hq hlen (vp_nar_int _) rfl hw k
theorem gf_X3_39 (C : CX g RX3 cc nL ret A p s m args meth c) {a : Nat} {fs : List Value} {v : Value} (hd : decode cc pc = .ok (.getfield 39, 3)) (q0 : Nat) (hq : ws[q0]? = some (a, oB 0 fs)) (hv : fs[2]? = some v) (k : RUN g nL p l e R s m args below meth c A cells slots Q ws (pc + 3) lv (v :: st)) : RUN g nL p l e R s m args below meth c A cells slots Q ws pc lv (.ref a :: st) := r_getN (host := RX11) C (C' := RX0) (T := TX0) (N := 3) (ci := 0) (ref := RX0) inlX0 rfl 2 (by decide) (List.mem_of_getElem? (i := 27) rfl) rfl hd q0 hq hv k
theorem pf_X3_39 (C : CX g RX3 cc nL ret A p s m args meth c) {a : Nat} {fs : List Value} {x : Int} {ws' : va_W} (hd : decode cc pc = .ok (.putfield 39, 3)) (q0 : Nat) (hq : ws[q0]? = some (a, oB 0 fs)) (hlen : 2 < fs.length) (hw : ws.set q0 (a, oB 0 (fs.set 2 (vi x))) = ws') (k : RUN g nL p l e R s m args below meth c A cells slots Q ws' (pc + 3) lv st) : RUN g nL p l e R s m args below meth c A cells slots Q ws pc lv (vi x :: .ref a :: st) := r_putN (host := RX11) C (C' := RX0) (T := TX0) (N := 3) (ci := 0) (ref := RX0) (ty := .int) inlX0 tyX0 tyX0_ok nmX0 rfl 2 (by decide) (List.mem_of_getElem? (i := 27) rfl) rfl rfl rfl hd q0 hq hlen (vp_nar_int _) rfl hw k
theorem gf_X4_13 (C : CX g RX4 cc nL ret A p s m args meth c) {a : Nat} {fs : List Value} {v : Value} (hd : decode cc pc = .ok (.getfield 13, 3)) (q0 : Nat) (hq : ws[q0]? = some (a, oB 2 fs)) (hv : fs[0]? = some v) (k : RUN g nL p l e R s m args below meth c A cells slots Q ws (pc + 3) lv (v :: st)) : RUN g nL p l e R s m args below meth c A cells slots Q ws pc lv (.ref a :: st) := r_getN (host := RX11) C (C' := RX2) (T := TX2) (N := 4) (ci := 2) (ref := RX2) inlX2 rfl 0 (by decide) (List.mem_of_getElem? (i := 41) rfl) rfl hd q0 hq hv k
theorem pf_X4_13 (C : CX g RX4 cc nL ret A p s m args meth c) {a : Nat} {fs : List Value} {x : Int} {ws' : va_W} (hd : decode cc pc = .ok (.putfield 13, 3)) (q0 : Nat) (hq : ws[q0]? = some (a, oB 2 fs)) (hlen : 0 < fs.length) (hw : ws.set q0 (a, oB 2 (fs.set 0 (vi x))) = ws') (k : RUN g nL p l e R s m args below meth c A cells slots Q ws' (pc + 3) lv st) : RUN g nL p l e R s m args below meth c A cells slots Q ws pc lv (vi x :: .ref a :: st) := r_putN (host := RX11) C (C' := RX2) (T := TX2) (N := 4) (ci := 2) (ref := RX2) (ty := .int) inlX2 tyX2 tyX2_ok nmX2 rfl 0 (by decide) (List.mem_of_getElem? (i := 41) rfl) rfl rfl rfl hd q0 hq hlen (vp_nar_int _) rfl hw k
theorem gf_X4_19 (C : CX g RX4 cc nL ret A p s m args meth c) {a : Nat} {fs : List Value} {v : Value} (hd : decode cc pc = .ok (.getfield 19, 3)) (q0 : Nat) (hq : ws[q0]? = some (a, oB 2 fs)) (hv : fs[1]? = some v) (k : RUN g nL p l e R s m args below meth c A cells slots Q ws (pc + 3) lv (v :: st)) : RUN g nL p l e R s m args below meth c A cells slots Q ws pc lv (.ref a :: st) := r_getN (host := RX11) C (C' := RX2) (T := TX2) (N := 4) (ci := 2) (ref := RX2) inlX2 rfl 1 (by decide) (List.mem_of_getElem? (i := 43) rfl) rfl hd q0 hq hv k
theorem pf_X4_19 (C : CX g RX4 cc nL ret A p s m args meth c) {a : Nat} {fs : List Value} {x : Int} {ws' : va_W} (hd : decode cc pc = .ok (.putfield 19, 3)) (q0 : Nat) (hq : ws[q0]? = some (a, oB 2 fs)) (hlen : 1 < fs.length) (hw : ws.set q0 (a, oB 2 (fs.set 1 (vi x))) = ws') (k : RUN g nL p l e R s m args below meth c A cells slots Q ws' (pc + 3) lv st) : RUN g nL p l e R s m args below meth c A cells slots Q ws pc lv (vi x :: .ref a :: st) := r_putN (host := RX11) C (C' := RX2) (T := TX2) (N := 4) (ci := 2) (ref := RX2) (ty := .int) inlX2 tyX2 tyX2_ok nmX2 rfl 1 (by decide) (List.mem_of_getElem? (i := 43) rfl) rfl rfl rfl hd q0 hq hlen (vp_nar_int _) rfl hw k
theorem gf_X5_12 (C : CX g RX5 cc nL ret A p s m args meth c) {a : Nat} {fs : List Value} {v : Value} (hd : decode cc pc = .ok (.getfield 12, 3)) (q0 : Nat) (hq : ws[q0]? = some (a, oB 4 fs)) (hv : fs[0]? = some v) (k : RUN g nL p l e R s m args below meth c A cells slots Q ws (pc + 3) lv (v :: st)) : RUN g nL p l e R s m args below meth c A cells slots Q ws pc lv (.ref a :: st) := r_get C (C' := RX5) (T := TX5) (N := 9) (ci := 4) (ref := RX5) inlX5 rfl 0 (by decide) (in_r5 (List.mem_of_getElem? (i := 11) rfl)) rfl hd q0 hq hv k
theorem pf_X5_12 (C : CX g RX5 cc nL ret A p s m args meth c) {a : Nat} {fs : List Value} {b : Nat} {ws' : va_W} (hin : meth.name = "<init>") (hd : decode cc pc = .ok (.putfield 12, 3)) (q0 : Nat) (hq : ws[q0]? = some (a, oB 4 fs)) (hlen : 0 < fs.length) (hw : ws.set q0 (a, oB 4 (fs.set 0 (.ref b))) = ws') (k : RUN g nL p l e R s m args below meth c A cells slots Q ws' (pc + 3) lv st) : RUN g nL p l e R s m args below meth c A cells slots Q ws pc lv (.ref b :: .ref a :: st) := r_putF (host := RX11) C (C' := RX5) (T := TX5) (N := 9) (ci := 4) (ref := RX5) (ty := (.object "EdgeStencil$Shape")) inlX5 tyX5 tyX5_ok nmX5 rfl 0 (by decide) (in_r5 (List.mem_of_getElem? (i := 11) rfl)) rfl rfl hin rfl rfl hd q0 hq hlen rfl rfl hw k
theorem gf_X5_21 (C : CX g RX5 cc nL ret A p s m args meth c) {a : Nat} {fs : List Value} {v : Value} (hd : decode cc pc = .ok (.getfield 21, 3)) (q0 : Nat) (hq : ws[q0]? = some (a, oB 4 fs)) (hv : fs[1]? = some v) (k : RUN g nL p l e R s m args below meth c A cells slots Q ws (pc + 3) lv (v :: st)) : RUN g nL p l e R s m args below meth c A cells slots Q ws pc lv (.ref a :: st) := r_get C (C' := RX5) (T := TX5) (N := 9) (ci := 4) (ref := RX5) inlX5 rfl 1 (by decide) (in_r5 (List.mem_of_getElem? (i := 13) rfl)) rfl hd q0 hq hv k
theorem pf_X5_21 (C : CX g RX5 cc nL ret A p s m args meth c) {a : Nat} {fs : List Value} {b : Nat} {ws' : va_W} (hin : meth.name = "<init>") (hd : decode cc pc = .ok (.putfield 21, 3)) (q0 : Nat) (hq : ws[q0]? = some (a, oB 4 fs)) (hlen : 1 < fs.length) (hw : ws.set q0 (a, oB 4 (fs.set 1 (.ref b))) = ws') (k : RUN g nL p l e R s m args below meth c A cells slots Q ws' (pc + 3) lv st) : RUN g nL p l e R s m args below meth c A cells slots Q ws pc lv (.ref b :: .ref a :: st) := r_putF (host := RX11) C (C' := RX5) (T := TX5) (N := 9) (ci := 4) (ref := RX5) (ty := (.object "EdgeStencil$Fit")) inlX5 tyX5 tyX5_ok nmX5 rfl 1 (by decide) (in_r5 (List.mem_of_getElem? (i := 13) rfl)) rfl rfl hin rfl rfl hd q0 hq hlen rfl rfl hw k
theorem gf_X5_25 (C : CX g RX5 cc nL ret A p s m args meth c) {a : Nat} {fs : List Value} {v : Value} (hd : decode cc pc = .ok (.getfield 25, 3)) (q0 : Nat) (hq : ws[q0]? = some (a, oB 4 fs)) (hv : fs[2]? = some v) (k : RUN g nL p l e R s m args below meth c A cells slots Q ws (pc + 3) lv (v :: st)) : RUN g nL p l e R s m args below meth c A cells slots Q ws pc lv (.ref a :: st) := r_get C (C' := RX5) (T := TX5) (N := 9) (ci := 4) (ref := RX5) inlX5 rfl 2 (by decide) (in_r5 (List.mem_of_getElem? (i := 14) rfl)) rfl hd q0 hq hv k
theorem pf_X5_25 (C : CX g RX5 cc nL ret A p s m args meth c) {a : Nat} {fs : List Value} {b : Nat} {ws' : va_W} (hin : meth.name = "<init>") (hd : decode cc pc = .ok (.putfield 25, 3)) (q0 : Nat) (hq : ws[q0]? = some (a, oB 4 fs)) (hlen : 2 < fs.length) (hw : ws.set q0 (a, oB 4 (fs.set 2 (.ref b))) = ws') (k : RUN g nL p l e R s m args below meth c A cells slots Q ws' (pc + 3) lv st) : RUN g nL p l e R s m args below meth c A cells slots Q ws pc lv (.ref b :: .ref a :: st) := r_putF (host := RX11) C (C' := RX5) (T := TX5) (N := 9) (ci := 4) (ref := RX5) (ty := (.array .int)) inlX5 tyX5 tyX5_ok nmX5 rfl 2 (by decide) (in_r5 (List.mem_of_getElem? (i := 14) rfl)) rfl rfl hin rfl rfl hd q0 hq hlen rfl rfl hw k
theorem gf_X5_29 (C : CX g RX5 cc nL ret A p s m args meth c) {a : Nat} {fs : List Value} {v : Value} (hd : decode cc pc = .ok (.getfield 29, 3)) (q0 : Nat) (hq : ws[q0]? = some (a, oB 4 fs)) (hv : fs[3]? = some v) (k : RUN g nL p l e R s m args below meth c A cells slots Q ws (pc + 3) lv (v :: st)) : RUN g nL p l e R s m args below meth c A cells slots Q ws pc lv (.ref a :: st) := r_get C (C' := RX5) (T := TX5) (N := 9) (ci := 4) (ref := RX5) inlX5 rfl 3 (by decide) (in_r5 (List.mem_of_getElem? (i := 15) rfl)) rfl hd q0 hq hv k
theorem pf_X5_29 (C : CX g RX5 cc nL ret A p s m args meth c) {a : Nat} {fs : List Value} {x : Int} {ws' : va_W} (hd : decode cc pc = .ok (.putfield 29, 3)) (q0 : Nat) (hq : ws[q0]? = some (a, oB 4 fs)) (hlen : 3 < fs.length) (hw : ws.set q0 (a, oB 4 (fs.set 3 (vi x))) = ws') (k : RUN g nL p l e R s m args below meth c A cells slots Q ws' (pc + 3) lv st) : RUN g nL p l e R s m args below meth c A cells slots Q ws pc lv (vi x :: .ref a :: st) := r_put (host := RX11) C (C' := RX5) (T := TX5) (N := 9) (ci := 4) (ref := RX5) (ty := .int) inlX5 tyX5 tyX5_ok nmX5 rfl 3 (by decide) (in_r5 (List.mem_of_getElem? (i := 15) rfl)) rfl rfl rfl hd q0 hq hlen (vp_nar_int _) rfl hw k
theorem gf_X5_35 (C : CX g RX5 cc nL ret A p s m args meth c) {a : Nat} {fs : List Value} {v : Value} (hd : decode cc pc = .ok (.getfield 35, 3)) (q0 : Nat) (hq : ws[q0]? = some (a, oB 4 fs)) (hv : fs[4]? = some v) (k : RUN g nL p l e R s m args below meth c A cells slots Q ws (pc + 3) lv (v :: st)) : RUN g nL p l e R s m args below meth c A cells slots Q ws pc lv (.ref a :: st) := r_get C (C' := RX5) (T := TX5) (N := 9) (ci := 4) (ref := RX5) inlX5 rfl 4 (by decide) (in_r5 (List.mem_of_getElem? (i := 16) rfl)) rfl hd q0 hq hv k
theorem pf_X5_35 (C : CX g RX5 cc nL ret A p s m args meth c) {a : Nat} {fs : List Value} {b : Nat} {ws' : va_W} (hin : meth.name = "<init>") (hd : decode cc pc = .ok (.putfield 35, 3)) (q0 : Nat) (hq : ws[q0]? = some (a, oB 4 fs)) (hlen : 4 < fs.length) (hw : ws.set q0 (a, oB 4 (fs.set 4 (.ref b))) = ws') (k : RUN g nL p l e R s m args below meth c A cells slots Q ws' (pc + 3) lv st) : RUN g nL p l e R s m args below meth c A cells slots Q ws pc lv (.ref b :: .ref a :: st) := r_putF (host := RX11) C (C' := RX5) (T := TX5) (N := 9) (ci := 4) (ref := RX5) (ty := (.array .int)) inlX5 tyX5 tyX5_ok nmX5 rfl 4 (by decide) (in_r5 (List.mem_of_getElem? (i := 16) rfl)) rfl rfl hin rfl rfl hd q0 hq hlen rfl rfl hw k
theorem gf_X5_38 (C : CX g RX5 cc nL ret A p s m args meth c) {a : Nat} {fs : List Value} {v : Value} (hd : decode cc pc = .ok (.getfield 38, 3)) (q0 : Nat) (hq : ws[q0]? = some (a, oB 4 fs)) (hv : fs[5]? = some v) (k : RUN g nL p l e R s m args below meth c A cells slots Q ws (pc + 3) lv (v :: st)) : RUN g nL p l e R s m args below meth c A cells slots Q ws pc lv (.ref a :: st) := r_get C (C' := RX5) (T := TX5) (N := 9) (ci := 4) (ref := RX5) inlX5 rfl 5 (by decide) (in_r5 (List.mem_of_getElem? (i := 18) rfl)) rfl hd q0 hq hv k
theorem pf_X5_38 (C : CX g RX5 cc nL ret A p s m args meth c) {a : Nat} {fs : List Value} {b : Nat} {ws' : va_W} (hin : meth.name = "<init>") (hd : decode cc pc = .ok (.putfield 38, 3)) (q0 : Nat) (hq : ws[q0]? = some (a, oB 4 fs)) (hlen : 5 < fs.length) (hw : ws.set q0 (a, oB 4 (fs.set 5 (.ref b))) = ws') (k : RUN g nL p l e R s m args below meth c A cells slots Q ws' (pc + 3) lv st) : RUN g nL p l e R s m args below meth c A cells slots Q ws pc lv (.ref b :: .ref a :: st) := r_putF (host := RX11) C (C' := RX5) (T := TX5) (N := 9) (ci := 4) (ref := RX5) (ty := (.array .boolean)) inlX5 tyX5 tyX5_ok nmX5 rfl 5 (by decide) (in_r5 (List.mem_of_getElem? (i := 18) rfl)) rfl rfl hin rfl rfl hd q0 hq hlen rfl rfl hw k
theorem gf_X5_42 (C : CX g RX5 cc nL ret A p s m args meth c) {a : Nat} {fs : List Value} {v : Value} (hd : decode cc pc = .ok (.getfield 42, 3)) (q0 : Nat) (hq : ws[q0]? = some (a, oB 4 fs)) (hv : fs[6]? = some v) (k : RUN g nL p l e R s m args below meth c A cells slots Q ws (pc + 3) lv (v :: st)) : RUN g nL p l e R s m args below meth c A cells slots Q ws pc lv (.ref a :: st) := r_get C (C' := RX5) (T := TX5) (N := 9) (ci := 4) (ref := RX5) inlX5 rfl 6 (by decide) (in_r5 (List.mem_of_getElem? (i := 19) rfl)) rfl hd q0 hq hv k
theorem pf_X5_42 (C : CX g RX5 cc nL ret A p s m args meth c) {a : Nat} {fs : List Value} {b : Nat} {ws' : va_W} (hin : meth.name = "<init>") (hd : decode cc pc = .ok (.putfield 42, 3)) (q0 : Nat) (hq : ws[q0]? = some (a, oB 4 fs)) (hlen : 6 < fs.length) (hw : ws.set q0 (a, oB 4 (fs.set 6 (.ref b))) = ws') (k : RUN g nL p l e R s m args below meth c A cells slots Q ws' (pc + 3) lv st) : RUN g nL p l e R s m args below meth c A cells slots Q ws pc lv (.ref b :: .ref a :: st) := r_putF (host := RX11) C (C' := RX5) (T := TX5) (N := 9) (ci := 4) (ref := RX5) (ty := (.array .int)) inlX5 tyX5 tyX5_ok nmX5 rfl 6 (by decide) (in_r5 (List.mem_of_getElem? (i := 19) rfl)) rfl rfl hin rfl rfl hd q0 hq hlen rfl rfl hw k
theorem gf_X5_45 (C : CX g RX5 cc nL ret A p s m args meth c) {a : Nat} {fs : List Value} {v : Value} (hd : decode cc pc = .ok (.getfield 45, 3)) (q0 : Nat) (hq : ws[q0]? = some (a, oB 4 fs)) (hv : fs[7]? = some v) (k : RUN g nL p l e R s m args below meth c A cells slots Q ws (pc + 3) lv (v :: st)) : RUN g nL p l e R s m args below meth c A cells slots Q ws pc lv (.ref a :: st) := r_get C (C' := RX5) (T := TX5) (N := 9) (ci := 4) (ref := RX5) inlX5 rfl 7 (by decide) (in_r5 (List.mem_of_getElem? (i := 20) rfl)) rfl hd q0 hq hv k
theorem pf_X5_45 (C : CX g RX5 cc nL ret A p s m args meth c) {a : Nat} {fs : List Value} {x : Int} {ws' : va_W} (hd : decode cc pc = .ok (.putfield 45, 3)) (q0 : Nat) (hq : ws[q0]? = some (a, oB 4 fs)) (hlen : 7 < fs.length) (hw : ws.set q0 (a, oB 4 (fs.set 7 (vi x))) = ws') (k : RUN g nL p l e R s m args below meth c A cells slots Q ws' (pc + 3) lv st) : RUN g nL p l e R s m args below meth c A cells slots Q ws pc lv (vi x :: .ref a :: st) := r_put (host := RX11) C (C' := RX5) (T := TX5) (N := 9) (ci := 4) (ref := RX5) (ty := .int) inlX5 tyX5 tyX5_ok nmX5 rfl 7 (by decide) (in_r5 (List.mem_of_getElem? (i := 20) rfl)) rfl rfl rfl hd q0 hq hlen (vp_nar_int _) rfl hw k
theorem gf_X5_48 (C : CX g RX5 cc nL ret A p s m args meth c) {a : Nat} {fs : List Value} {v : Value} (hd : decode cc pc = .ok (.getfield 48, 3)) (q0 : Nat) (hq : ws[q0]? = some (a, oB 4 fs)) (hv : fs[8]? = some v) (k : RUN g nL p l e R s m args below meth c A cells slots Q ws (pc + 3) lv (v :: st)) : RUN g nL p l e R s m args below meth c A cells slots Q ws pc lv (.ref a :: st) := r_get C (C' := RX5) (T := TX5) (N := 9) (ci := 4) (ref := RX5) inlX5 rfl 8 (by decide) (in_r5 (List.mem_of_getElem? (i := 21) rfl)) rfl hd q0 hq hv k
theorem pf_X5_48 (C : CX g RX5 cc nL ret A p s m args meth c) {a : Nat} {fs : List Value} {x : Int} {ws' : va_W} (hd : decode cc pc = .ok (.putfield 48, 3)) (q0 : Nat) (hq : ws[q0]? = some (a, oB 4 fs)) (hlen : 8 < fs.length) (hw : ws.set q0 (a, oB 4 (fs.set 8 (vi x))) = ws') (k : RUN g nL p l e R s m args below meth c A cells slots Q ws' (pc + 3) lv st) : RUN g nL p l e R s m args below meth c A cells slots Q ws pc lv (vi x :: .ref a :: st) := r_put (host := RX11) C (C' := RX5) (T := TX5) (N := 9) (ci := 4) (ref := RX5) (ty := .int) inlX5 tyX5 tyX5_ok nmX5 rfl 8 (by decide) (in_r5 (List.mem_of_getElem? (i := 21) rfl)) rfl rfl rfl hd q0 hq hlen (vp_nar_int _) rfl hw k
theorem gf_X5_66 (C : CX g RX5 cc nL ret A p s m args meth c) {a : Nat} {fs : List Value} {v : Value} (hd : decode cc pc = .ok (.getfield 66, 3)) (q0 : Nat) (hq : ws[q0]? = some (a, oB 6 fs)) (hv : fs[1]? = some v) (k : RUN g nL p l e R s m args below meth c A cells slots Q ws (pc + 3) lv (v :: st)) : RUN g nL p l e R s m args below meth c A cells slots Q ws pc lv (.ref a :: st) := r_getN (host := RX11) C (C' := RX7) (T := TX7) (N := 8) (ci := 6) (ref := RX7) inlX7 rfl 1 (by decide) (List.mem_of_getElem? (i := 6) rfl) rfl hd q0 hq hv k
theorem pf_X5_66 (C : CX g RX5 cc nL ret A p s m args meth c) {a : Nat} {fs : List Value} {x : Int} {ws' : va_W} (hd : decode cc pc = .ok (.putfield 66, 3)) (q0 : Nat) (hq : ws[q0]? = some (a, oB 6 fs)) (hlen : 1 < fs.length) (hw : ws.set q0 (a, oB 6 (fs.set 1 (vi x))) = ws') (k : RUN g nL p l e R s m args below meth c A cells slots Q ws' (pc + 3) lv st) : RUN g nL p l e R s m args below meth c A cells slots Q ws pc lv (vi x :: .ref a :: st) := r_putN (host := RX11) C (C' := RX7) (T := TX7) (N := 8) (ci := 6) (ref := RX7) (ty := .int) inlX7 tyX7 tyX7_ok nmX7 rfl 1 (by decide) (List.mem_of_getElem? (i := 6) rfl) rfl rfl rfl hd q0 hq hlen (vp_nar_int _) rfl hw k
theorem gf_X5_71 (C : CX g RX5 cc nL ret A p s m args meth c) {a : Nat} {fs : List Value} {v : Value} (hd : decode cc pc = .ok (.getfield 71, 3)) (q0 : Nat) (hq : ws[q0]? = some (a, oB 6 fs)) (hv : fs[0]? = some v) (k : RUN g nL p l e R s m args below meth c A cells slots Q ws (pc + 3) lv (v :: st)) : RUN g nL p l e R s m args below meth c A cells slots Q ws pc lv (.ref a :: st) := r_getN (host := RX11) C (C' := RX7) (T := TX7) (N := 8) (ci := 6) (ref := RX7) inlX7 rfl 0 (by decide) (List.mem_of_getElem? (i := 2) rfl) rfl hd q0 hq hv k
theorem pf_X5_71 (C : CX g RX5 cc nL ret A p s m args meth c) {a : Nat} {fs : List Value} {x : Int} {ws' : va_W} (hd : decode cc pc = .ok (.putfield 71, 3)) (q0 : Nat) (hq : ws[q0]? = some (a, oB 6 fs)) (hlen : 0 < fs.length) (hw : ws.set q0 (a, oB 6 (fs.set 0 (vi x))) = ws') (k : RUN g nL p l e R s m args below meth c A cells slots Q ws' (pc + 3) lv st) : RUN g nL p l e R s m args below meth c A cells slots Q ws pc lv (vi x :: .ref a :: st) := r_putN (host := RX11) C (C' := RX7) (T := TX7) (N := 8) (ci := 6) (ref := RX7) (ty := .int) inlX7 tyX7 tyX7_ok nmX7 rfl 0 (by decide) (List.mem_of_getElem? (i := 2) rfl) rfl rfl rfl hd q0 hq hlen (vp_nar_int _) rfl hw k
theorem gf_X6_12 (C : CX g RX6 cc nL ret A p s m args meth c) {a : Nat} {fs : List Value} {v : Value} (hd : decode cc pc = .ok (.getfield 12, 3)) (q0 : Nat) (hq : ws[q0]? = some (a, oB 5 fs)) (hv : fs[0]? = some v) (k : RUN g nL p l e R s m args below meth c A cells slots Q ws (pc + 3) lv (v :: st)) : RUN g nL p l e R s m args below meth c A cells slots Q ws pc lv (.ref a :: st) := r_get C (C' := RX6) (T := TX6) (N := 3) (ci := 5) (ref := RX6) inlX6 rfl 0 (by decide) (in_r3 (List.mem_of_getElem? (i := 19) rfl)) rfl hd q0 hq hv k
theorem pf_X6_12 (C : CX g RX6 cc nL ret A p s m args meth c) {a : Nat} {fs : List Value} {b : Nat} {ws' : va_W} (hin : meth.name = "<init>") (hd : decode cc pc = .ok (.putfield 12, 3)) (q0 : Nat) (hq : ws[q0]? = some (a, oB 5 fs)) (hlen : 0 < fs.length) (hw : ws.set q0 (a, oB 5 (fs.set 0 (.ref b))) = ws') (k : RUN g nL p l e R s m args below meth c A cells slots Q ws' (pc + 3) lv st) : RUN g nL p l e R s m args below meth c A cells slots Q ws pc lv (.ref b :: .ref a :: st) := r_putF (host := RX11) C (C' := RX6) (T := TX6) (N := 3) (ci := 5) (ref := RX6) (ty := (.object "EdgeStencil$Scene")) inlX6 tyX6 tyX6_ok nmX6 rfl 0 (by decide) (in_r3 (List.mem_of_getElem? (i := 19) rfl)) rfl rfl hin rfl rfl hd q0 hq hlen rfl rfl hw k
theorem gf_X6_18 (C : CX g RX6 cc nL ret A p s m args meth c) {a : Nat} {fs : List Value} {v : Value} (hd : decode cc pc = .ok (.getfield 18, 3)) (q0 : Nat) (hq : ws[q0]? = some (a, oB 5 fs)) (hv : fs[1]? = some v) (k : RUN g nL p l e R s m args below meth c A cells slots Q ws (pc + 3) lv (v :: st)) : RUN g nL p l e R s m args below meth c A cells slots Q ws pc lv (.ref a :: st) := r_get C (C' := RX6) (T := TX6) (N := 3) (ci := 5) (ref := RX6) inlX6 rfl 1 (by decide) (in_r3 (List.mem_of_getElem? (i := 20) rfl)) rfl hd q0 hq hv k
theorem pf_X6_18 (C : CX g RX6 cc nL ret A p s m args meth c) {a : Nat} {fs : List Value} {x : Int} {ws' : va_W} (hd : decode cc pc = .ok (.putfield 18, 3)) (q0 : Nat) (hq : ws[q0]? = some (a, oB 5 fs)) (hlen : 1 < fs.length) (hna : narrow .boolean (vi x) = vi x) (hfi : fits .boolean (vi x) = true) (hw : ws.set q0 (a, oB 5 (fs.set 1 (vi x))) = ws') (k : RUN g nL p l e R s m args below meth c A cells slots Q ws' (pc + 3) lv st) : RUN g nL p l e R s m args below meth c A cells slots Q ws pc lv (vi x :: .ref a :: st) := r_put (host := RX11) C (C' := RX6) (T := TX6) (N := 3) (ci := 5) (ref := RX6) (ty := .boolean) inlX6 tyX6 tyX6_ok nmX6 rfl 1 (by decide) (in_r3 (List.mem_of_getElem? (i := 20) rfl)) rfl rfl rfl hd q0 hq hlen hna hfi hw k
theorem gf_X6_22 (C : CX g RX6 cc nL ret A p s m args meth c) {a : Nat} {fs : List Value} {v : Value} (hd : decode cc pc = .ok (.getfield 22, 3)) (q0 : Nat) (hq : ws[q0]? = some (a, oB 5 fs)) (hv : fs[2]? = some v) (k : RUN g nL p l e R s m args below meth c A cells slots Q ws (pc + 3) lv (v :: st)) : RUN g nL p l e R s m args below meth c A cells slots Q ws pc lv (.ref a :: st) := r_get C (C' := RX6) (T := TX6) (N := 3) (ci := 5) (ref := RX6) inlX6 rfl 2 (by decide) (in_r3 (List.mem_of_getElem? (i := 21) rfl)) rfl hd q0 hq hv k
theorem pf_X6_22 (C : CX g RX6 cc nL ret A p s m args meth c) {a : Nat} {fs : List Value} {x : Int} {ws' : va_W} (hd : decode cc pc = .ok (.putfield 22, 3)) (q0 : Nat) (hq : ws[q0]? = some (a, oB 5 fs)) (hlen : 2 < fs.length) (hw : ws.set q0 (a, oB 5 (fs.set 2 (vi x))) = ws') (k : RUN g nL p l e R s m args below meth c A cells slots Q ws' (pc + 3) lv st) : RUN g nL p l e R s m args below meth c A cells slots Q ws pc lv (vi x :: .ref a :: st) := r_put (host := RX11) C (C' := RX6) (T := TX6) (N := 3) (ci := 5) (ref := RX6) (ty := .int) inlX6 tyX6 tyX6_ok nmX6 rfl 2 (by decide) (in_r3 (List.mem_of_getElem? (i := 21) rfl)) rfl rfl rfl hd q0 hq hlen (vp_nar_int _) rfl hw k
theorem gf_X6_29 (C : CX g RX6 cc nL ret A p s m args meth c) {a : Nat} {fs : List Value} {v : Value} (hd : decode cc pc = .ok (.getfield 29, 3)) (q0 : Nat) (hq : ws[q0]? = some (a, oB 7 fs)) (hv : fs[1]? = some v) (k : RUN g nL p l e R s m args below meth c A cells slots Q ws (pc + 3) lv (v :: st)) : RUN g nL p l e R s m args below meth c A cells slots Q ws pc lv (.ref a :: st) := r_getN (host := RX11) C (C' := RX8) (T := TX8) (N := 2) (ci := 7) (ref := RX8) inlX8 rfl 1 (by decide) (List.mem_of_getElem? (i := 1) rfl) rfl hd q0 hq hv k
theorem pf_X6_29 (C : CX g RX6 cc nL ret A p s m args meth c) {a : Nat} {fs : List Value} {x : Int} {ws' : va_W} (hd : decode cc pc = .ok (.putfield 29, 3)) (q0 : Nat) (hq : ws[q0]? = some (a, oB 7 fs)) (hlen : 1 < fs.length) (hw : ws.set q0 (a, oB 7 (fs.set 1 (vi x))) = ws') (k : RUN g nL p l e R s m args below meth c A cells slots Q ws' (pc + 3) lv st) : RUN g nL p l e R s m args below meth c A cells slots Q ws pc lv (vi x :: .ref a :: st) := r_putN (host := RX11) C (C' := RX8) (T := TX8) (N := 2) (ci := 7) (ref := RX8) (ty := .int) inlX8 tyX8 tyX8_ok nmX8 rfl 1 (by decide) (List.mem_of_getElem? (i := 1) rfl) rfl rfl rfl hd q0 hq hlen (vp_nar_int _) rfl hw k
theorem gf_X6_62 (C : CX g RX6 cc nL ret A p s m args meth c) {a : Nat} {fs : List Value} {v : Value} (hd : decode cc pc = .ok (.getfield 62, 3)) (q0 : Nat) (hq : ws[q0]? = some (a, oB 6 fs)) (hv : fs[0]? = some v) (k : RUN g nL p l e R s m args below meth c A cells slots Q ws (pc + 3) lv (v :: st)) : RUN g nL p l e R s m args below meth c A cells slots Q ws pc lv (.ref a :: st) := r_getN (host := RX11) C (C' := RX7) (T := TX7) (N := 8) (ci := 6) (ref := RX7) inlX7 rfl 0 (by decide) (List.mem_of_getElem? (i := 4) rfl) rfl hd q0 hq hv k
theorem pf_X6_62 (C : CX g RX6 cc nL ret A p s m args meth c) {a : Nat} {fs : List Value} {x : Int} {ws' : va_W} (hd : decode cc pc = .ok (.putfield 62, 3)) (q0 : Nat) (hq : ws[q0]? = some (a, oB 6 fs)) (hlen : 0 < fs.length) (hw : ws.set q0 (a, oB 6 (fs.set 0 (vi x))) = ws') (k : RUN g nL p l e R s m args below meth c A cells slots Q ws' (pc + 3) lv st) : RUN g nL p l e R s m args below meth c A cells slots Q ws pc lv (vi x :: .ref a :: st) := r_putN (host := RX11) C (C' := RX7) (T := TX7) (N := 8) (ci := 6) (ref := RX7) (ty := .int) inlX7 tyX7 tyX7_ok nmX7 rfl 0 (by decide) (List.mem_of_getElem? (i := 4) rfl) rfl rfl rfl hd q0 hq hlen (vp_nar_int _) rfl hw k
theorem gf_X6_65 (C : CX g RX6 cc nL ret A p s m args meth c) {a : Nat} {fs : List Value} {v : Value} (hd : decode cc pc = .ok (.getfield 65, 3)) (q0 : Nat) (hq : ws[q0]? = some (a, oB 6 fs)) (hv : fs[1]? = some v) (k : RUN g nL p l e R s m args below meth c A cells slots Q ws (pc + 3) lv (v :: st)) : RUN g nL p l e R s m args below meth c A cells slots Q ws pc lv (.ref a :: st) := r_getN (host := RX11) C (C' := RX7) (T := TX7) (N := 8) (ci := 6) (ref := RX7) inlX7 rfl 1 (by decide) (List.mem_of_getElem? (i := 8) rfl) rfl hd q0 hq hv k
theorem pf_X6_65 (C : CX g RX6 cc nL ret A p s m args meth c) {a : Nat} {fs : List Value} {x : Int} {ws' : va_W} (hd : decode cc pc = .ok (.putfield 65, 3)) (q0 : Nat) (hq : ws[q0]? = some (a, oB 6 fs)) (hlen : 1 < fs.length) (hw : ws.set q0 (a, oB 6 (fs.set 1 (vi x))) = ws') (k : RUN g nL p l e R s m args below meth c A cells slots Q ws' (pc + 3) lv st) : RUN g nL p l e R s m args below meth c A cells slots Q ws pc lv (vi x :: .ref a :: st) := r_putN (host := RX11) C (C' := RX7) (T := TX7) (N := 8) (ci := 6) (ref := RX7) (ty := .int) inlX7 tyX7 tyX7_ok nmX7 rfl 1 (by decide) (List.mem_of_getElem? (i := 8) rfl) rfl rfl rfl hd q0 hq hlen (vp_nar_int _) rfl hw k
theorem gf_X6_68 (C : CX g RX6 cc nL ret A p s m args meth c) {a : Nat} {fs : List Value} {v : Value} (hd : decode cc pc = .ok (.getfield 68, 3)) (q0 : Nat) (hq : ws[q0]? = some (a, oB 6 fs)) (hv : fs[2]? = some v) (k : RUN g nL p l e R s m args below meth c A cells slots Q ws (pc + 3) lv (v :: st)) : RUN g nL p l e R s m args below meth c A cells slots Q ws pc lv (.ref a :: st) := r_getN (host := RX11) C (C' := RX7) (T := TX7) (N := 8) (ci := 6) (ref := RX7) inlX7 rfl 2 (by decide) (List.mem_of_getElem? (i := 10) rfl) rfl hd q0 hq hv k
theorem gf_X6_72 (C : CX g RX6 cc nL ret A p s m args meth c) {a : Nat} {fs : List Value} {v : Value} (hd : decode cc pc = .ok (.getfield 72, 3)) (q0 : Nat) (hq : ws[q0]? = some (a, oB 6 fs)) (hv : fs[5]? = some v) (k : RUN g nL p l e R s m args below meth c A cells slots Q ws (pc + 3) lv (v :: st)) : RUN g nL p l e R s m args below meth c A cells slots Q ws pc lv (.ref a :: st) := r_getN (host := RX11) C (C' := RX7) (T := TX7) (N := 8) (ci := 6) (ref := RX7) inlX7 rfl 5 (by decide) (List.mem_of_getElem? (i := 15) rfl) rfl hd q0 hq hv k
theorem pf_X6_72 (C : CX g RX6 cc nL ret A p s m args meth c) {a : Nat} {fs : List Value} {x : Int} {ws' : va_W} (hd : decode cc pc = .ok (.putfield 72, 3)) (q0 : Nat) (hq : ws[q0]? = some (a, oB 6 fs)) (hlen : 5 < fs.length) (hw : ws.set q0 (a, oB 6 (fs.set 5 (vi x))) = ws') (k : RUN g nL p l e R s m args below meth c A cells slots Q ws' (pc + 3) lv st) : RUN g nL p l e R s m args below meth c A cells slots Q ws pc lv (vi x :: .ref a :: st) := r_putN (host := RX11) C (C' := RX7) (T := TX7) (N := 8) (ci := 6) (ref := RX7) (ty := .int) inlX7 tyX7 tyX7_ok nmX7 rfl 5 (by decide) (List.mem_of_getElem? (i := 15) rfl) rfl rfl rfl hd q0 hq hlen (vp_nar_int _) rfl hw k
theorem gf_X6_83 (C : CX g RX6 cc nL ret A p s m args meth c) {a : Nat} {fs : List Value} {v : Value} (hd : decode cc pc = .ok (.getfield 83, 3)) (q0 : Nat) (hq : ws[q0]? = some (a, oB 6 fs)) (hv : fs[6]? = some v) (k : RUN g nL p l e R s m args below meth c A cells slots Q ws (pc + 3) lv (v :: st)) : RUN g nL p l e R s m args below meth c A cells slots Q ws pc lv (.ref a :: st) := r_getN (host := RX11) C (C' := RX7) (T := TX7) (N := 8) (ci := 6) (ref := RX7) inlX7 rfl 6 (by decide) (List.mem_of_getElem? (i := 17) rfl) rfl hd q0 hq hv k
theorem pf_X6_83 (C : CX g RX6 cc nL ret A p s m args meth c) {a : Nat} {fs : List Value} {x : Int} {ws' : va_W} (hd : decode cc pc = .ok (.putfield 83, 3)) (q0 : Nat) (hq : ws[q0]? = some (a, oB 6 fs)) (hlen : 6 < fs.length) (hw : ws.set q0 (a, oB 6 (fs.set 6 (vi x))) = ws') (k : RUN g nL p l e R s m args below meth c A cells slots Q ws' (pc + 3) lv st) : RUN g nL p l e R s m args below meth c A cells slots Q ws pc lv (vi x :: .ref a :: st) := r_putN (host := RX11) C (C' := RX7) (T := TX7) (N := 8) (ci := 6) (ref := RX7) (ty := .int) inlX7 tyX7 tyX7_ok nmX7 rfl 6 (by decide) (List.mem_of_getElem? (i := 17) rfl) rfl rfl rfl hd q0 hq hlen (vp_nar_int _) rfl hw k
theorem gf_X6_86 (C : CX g RX6 cc nL ret A p s m args meth c) {a : Nat} {fs : List Value} {v : Value} (hd : decode cc pc = .ok (.getfield 86, 3)) (q0 : Nat) (hq : ws[q0]? = some (a, oB 6 fs)) (hv : fs[7]? = some v) (k : RUN g nL p l e R s m args below meth c A cells slots Q ws (pc + 3) lv (v :: st)) : RUN g nL p l e R s m args below meth c A cells slots Q ws pc lv (.ref a :: st) := r_getN (host := RX11) C (C' := RX7) (T := TX7) (N := 8) (ci := 6) (ref := RX7) inlX7 rfl 7 (by decide) (List.mem_of_getElem? (i := 20) rfl) rfl hd q0 hq hv k
theorem pf_X6_86 (C : CX g RX6 cc nL ret A p s m args meth c) {a : Nat} {fs : List Value} {x : Int} {ws' : va_W} (hd : decode cc pc = .ok (.putfield 86, 3)) (q0 : Nat) (hq : ws[q0]? = some (a, oB 6 fs)) (hlen : 7 < fs.length) (hw : ws.set q0 (a, oB 6 (fs.set 7 (vi x))) = ws') (k : RUN g nL p l e R s m args below meth c A cells slots Q ws' (pc + 3) lv st) : RUN g nL p l e R s m args below meth c A cells slots Q ws pc lv (vi x :: .ref a :: st) := r_putN (host := RX11) C (C' := RX7) (T := TX7) (N := 8) (ci := 6) (ref := RX7) (ty := .int) inlX7 tyX7 tyX7_ok nmX7 rfl 7 (by decide) (List.mem_of_getElem? (i := 20) rfl) rfl rfl rfl hd q0 hq hlen (vp_nar_int _) rfl hw k
theorem gf_X7_9 (C : CX g RX7 cc nL ret A p s m args meth c) {a : Nat} {fs : List Value} {v : Value} (hd : decode cc pc = .ok (.getfield 9, 3)) (q0 : Nat) (hq : ws[q0]? = some (a, oB 6 fs)) (hv : fs[0]? = some v) (k : RUN g nL p l e R s m args below meth c A cells slots Q ws (pc + 3) lv (v :: st)) : RUN g nL p l e R s m args below meth c A cells slots Q ws pc lv (.ref a :: st) := r_get C (C' := RX7) (T := TX7) (N := 8) (ci := 6) (ref := RX7) inlX7 rfl 0 (by decide) (in_r4 (List.mem_of_getElem? (i := 1) rfl)) rfl hd q0 hq hv k
theorem pf_X7_9 (C : CX g RX7 cc nL ret A p s m args meth c) {a : Nat} {fs : List Value} {x : Int} {ws' : va_W} (hd : decode cc pc = .ok (.putfield 9, 3)) (q0 : Nat) (hq : ws[q0]? = some (a, oB 6 fs)) (hlen : 0 < fs.length) (hw : ws.set q0 (a, oB 6 (fs.set 0 (vi x))) = ws') (k : RUN g nL p l e R s m args below meth c A cells slots Q ws' (pc + 3) lv st) : RUN g nL p l e R s m args below meth c A cells slots Q ws pc lv (vi x :: .ref a :: st) := r_put (host := RX11) C (C' := RX7) (T := TX7) (N := 8) (ci := 6) (ref := RX7) (ty := .int) inlX7 tyX7 tyX7_ok nmX7 rfl 0 (by decide) (in_r4 (List.mem_of_getElem? (i := 1) rfl)) rfl rfl rfl hd q0 hq hlen (vp_nar_int _) rfl hw k
theorem gf_X7_15 (C : CX g RX7 cc nL ret A p s m args meth c) {a : Nat} {fs : List Value} {v : Value} (hd : decode cc pc = .ok (.getfield 15, 3)) (q0 : Nat) (hq : ws[q0]? = some (a, oB 6 fs)) (hv : fs[1]? = some v) (k : RUN g nL p l e R s m args below meth c A cells slots Q ws (pc + 3) lv (v :: st)) : RUN g nL p l e R s m args below meth c A cells slots Q ws pc lv (.ref a :: st) := r_get C (C' := RX7) (T := TX7) (N := 8) (ci := 6) (ref := RX7) inlX7 rfl 1 (by decide) (in_r4 (List.mem_of_getElem? (i := 2) rfl)) rfl hd q0 hq hv k
theorem pf_X7_15 (C : CX g RX7 cc nL ret A p s m args meth c) {a : Nat} {fs : List Value} {x : Int} {ws' : va_W} (hd : decode cc pc = .ok (.putfield 15, 3)) (q0 : Nat) (hq : ws[q0]? = some (a, oB 6 fs)) (hlen : 1 < fs.length) (hw : ws.set q0 (a, oB 6 (fs.set 1 (vi x))) = ws') (k : RUN g nL p l e R s m args below meth c A cells slots Q ws' (pc + 3) lv st) : RUN g nL p l e R s m args below meth c A cells slots Q ws pc lv (vi x :: .ref a :: st) := r_put (host := RX11) C (C' := RX7) (T := TX7) (N := 8) (ci := 6) (ref := RX7) (ty := .int) inlX7 tyX7 tyX7_ok nmX7 rfl 1 (by decide) (in_r4 (List.mem_of_getElem? (i := 2) rfl)) rfl rfl rfl hd q0 hq hlen (vp_nar_int _) rfl hw k
theorem gf_X7_18 (C : CX g RX7 cc nL ret A p s m args meth c) {a : Nat} {fs : List Value} {v : Value} (hd : decode cc pc = .ok (.getfield 18, 3)) (q0 : Nat) (hq : ws[q0]? = some (a, oB 6 fs)) (hv : fs[2]? = some v) (k : RUN g nL p l e R s m args below meth c A cells slots Q ws (pc + 3) lv (v :: st)) : RUN g nL p l e R s m args below meth c A cells slots Q ws pc lv (.ref a :: st) := r_get C (C' := RX7) (T := TX7) (N := 8) (ci := 6) (ref := RX7) inlX7 rfl 2 (by decide) (in_r4 (List.mem_of_getElem? (i := 4) rfl)) rfl hd q0 hq hv k
theorem pf_X7_18 (C : CX g RX7 cc nL ret A p s m args meth c) {a : Nat} {fs : List Value} {b : Nat} {ws' : va_W} (hin : meth.name = "<init>") (hd : decode cc pc = .ok (.putfield 18, 3)) (q0 : Nat) (hq : ws[q0]? = some (a, oB 6 fs)) (hlen : 2 < fs.length) (hw : ws.set q0 (a, oB 6 (fs.set 2 (.ref b))) = ws') (k : RUN g nL p l e R s m args below meth c A cells slots Q ws' (pc + 3) lv st) : RUN g nL p l e R s m args below meth c A cells slots Q ws pc lv (.ref b :: .ref a :: st) := r_putF (host := RX11) C (C' := RX7) (T := TX7) (N := 8) (ci := 6) (ref := RX7) (ty := (.array .int)) inlX7 tyX7 tyX7_ok nmX7 rfl 2 (by decide) (in_r4 (List.mem_of_getElem? (i := 4) rfl)) rfl rfl hin rfl rfl hd q0 hq hlen rfl rfl hw k
theorem gf_X7_22 (C : CX g RX7 cc nL ret A p s m args meth c) {a : Nat} {fs : List Value} {v : Value} (hd : decode cc pc = .ok (.getfield 22, 3)) (q0 : Nat) (hq : ws[q0]? = some (a, oB 6 fs)) (hv : fs[3]? = some v) (k : RUN g nL p l e R s m args below meth c A cells slots Q ws (pc + 3) lv (v :: st)) : RUN g nL p l e R s m args below meth c A cells slots Q ws pc lv (.ref a :: st) := r_get C (C' := RX7) (T := TX7) (N := 8) (ci := 6) (ref := RX7) inlX7 rfl 3 (by decide) (in_r4 (List.mem_of_getElem? (i := 5) rfl)) rfl hd q0 hq hv k
theorem pf_X7_22 (C : CX g RX7 cc nL ret A p s m args meth c) {a : Nat} {fs : List Value} {b : Nat} {ws' : va_W} (hin : meth.name = "<init>") (hd : decode cc pc = .ok (.putfield 22, 3)) (q0 : Nat) (hq : ws[q0]? = some (a, oB 6 fs)) (hlen : 3 < fs.length) (hw : ws.set q0 (a, oB 6 (fs.set 3 (.ref b))) = ws') (k : RUN g nL p l e R s m args below meth c A cells slots Q ws' (pc + 3) lv st) : RUN g nL p l e R s m args below meth c A cells slots Q ws pc lv (.ref b :: .ref a :: st) := r_putF (host := RX11) C (C' := RX7) (T := TX7) (N := 8) (ci := 6) (ref := RX7) (ty := (.array .int)) inlX7 tyX7 tyX7_ok nmX7 rfl 3 (by decide) (in_r4 (List.mem_of_getElem? (i := 5) rfl)) rfl rfl hin rfl rfl hd q0 hq hlen rfl rfl hw k
theorem gf_X7_25 (C : CX g RX7 cc nL ret A p s m args meth c) {a : Nat} {fs : List Value} {v : Value} (hd : decode cc pc = .ok (.getfield 25, 3)) (q0 : Nat) (hq : ws[q0]? = some (a, oB 6 fs)) (hv : fs[4]? = some v) (k : RUN g nL p l e R s m args below meth c A cells slots Q ws (pc + 3) lv (v :: st)) : RUN g nL p l e R s m args below meth c A cells slots Q ws pc lv (.ref a :: st) := r_get C (C' := RX7) (T := TX7) (N := 8) (ci := 6) (ref := RX7) inlX7 rfl 4 (by decide) (in_r4 (List.mem_of_getElem? (i := 6) rfl)) rfl hd q0 hq hv k
theorem pf_X7_25 (C : CX g RX7 cc nL ret A p s m args meth c) {a : Nat} {fs : List Value} {b : Nat} {ws' : va_W} (hin : meth.name = "<init>") (hd : decode cc pc = .ok (.putfield 25, 3)) (q0 : Nat) (hq : ws[q0]? = some (a, oB 6 fs)) (hlen : 4 < fs.length) (hw : ws.set q0 (a, oB 6 (fs.set 4 (.ref b))) = ws') (k : RUN g nL p l e R s m args below meth c A cells slots Q ws' (pc + 3) lv st) : RUN g nL p l e R s m args below meth c A cells slots Q ws pc lv (.ref b :: .ref a :: st) := r_putF (host := RX11) C (C' := RX7) (T := TX7) (N := 8) (ci := 6) (ref := RX7) (ty := (.array .int)) inlX7 tyX7 tyX7_ok nmX7 rfl 4 (by decide) (in_r4 (List.mem_of_getElem? (i := 6) rfl)) rfl rfl hin rfl rfl hd q0 hq hlen rfl rfl hw k
theorem gf_X7_28 (C : CX g RX7 cc nL ret A p s m args meth c) {a : Nat} {fs : List Value} {v : Value} (hd : decode cc pc = .ok (.getfield 28, 3)) (q0 : Nat) (hq : ws[q0]? = some (a, oB 6 fs)) (hv : fs[5]? = some v) (k : RUN g nL p l e R s m args below meth c A cells slots Q ws (pc + 3) lv (v :: st)) : RUN g nL p l e R s m args below meth c A cells slots Q ws pc lv (.ref a :: st) := r_get C (C' := RX7) (T := TX7) (N := 8) (ci := 6) (ref := RX7) inlX7 rfl 5 (by decide) (in_r4 (List.mem_of_getElem? (i := 7) rfl)) rfl hd q0 hq hv k
theorem pf_X7_28 (C : CX g RX7 cc nL ret A p s m args meth c) {a : Nat} {fs : List Value} {x : Int} {ws' : va_W} (hd : decode cc pc = .ok (.putfield 28, 3)) (q0 : Nat) (hq : ws[q0]? = some (a, oB 6 fs)) (hlen : 5 < fs.length) (hw : ws.set q0 (a, oB 6 (fs.set 5 (vi x))) = ws') (k : RUN g nL p l e R s m args below meth c A cells slots Q ws' (pc + 3) lv st) : RUN g nL p l e R s m args below meth c A cells slots Q ws pc lv (vi x :: .ref a :: st) := r_put (host := RX11) C (C' := RX7) (T := TX7) (N := 8) (ci := 6) (ref := RX7) (ty := .int) inlX7 tyX7 tyX7_ok nmX7 rfl 5 (by decide) (in_r4 (List.mem_of_getElem? (i := 7) rfl)) rfl rfl rfl hd q0 hq hlen (vp_nar_int _) rfl hw k
theorem gf_X7_31 (C : CX g RX7 cc nL ret A p s m args meth c) {a : Nat} {fs : List Value} {v : Value} (hd : decode cc pc = .ok (.getfield 31, 3)) (q0 : Nat) (hq : ws[q0]? = some (a, oB 6 fs)) (hv : fs[6]? = some v) (k : RUN g nL p l e R s m args below meth c A cells slots Q ws (pc + 3) lv (v :: st)) : RUN g nL p l e R s m args below meth c A cells slots Q ws pc lv (.ref a :: st) := r_get C (C' := RX7) (T := TX7) (N := 8) (ci := 6) (ref := RX7) inlX7 rfl 6 (by decide) (in_r4 (List.mem_of_getElem? (i := 8) rfl)) rfl hd q0 hq hv k
theorem pf_X7_31 (C : CX g RX7 cc nL ret A p s m args meth c) {a : Nat} {fs : List Value} {x : Int} {ws' : va_W} (hd : decode cc pc = .ok (.putfield 31, 3)) (q0 : Nat) (hq : ws[q0]? = some (a, oB 6 fs)) (hlen : 6 < fs.length) (hw : ws.set q0 (a, oB 6 (fs.set 6 (vi x))) = ws') (k : RUN g nL p l e R s m args below meth c A cells slots Q ws' (pc + 3) lv st) : RUN g nL p l e R s m args below meth c A cells slots Q ws pc lv (vi x :: .ref a :: st) := r_put (host := RX11) C (C' := RX7) (T := TX7) (N := 8) (ci := 6) (ref := RX7) (ty := .int) inlX7 tyX7 tyX7_ok nmX7 rfl 6 (by decide) (in_r4 (List.mem_of_getElem? (i := 8) rfl)) rfl rfl rfl hd q0 hq hlen (vp_nar_int _) rfl hw k
theorem gf_X7_34 (C : CX g RX7 cc nL ret A p s m args meth c) {a : Nat} {fs : List Value} {v : Value} (hd : decode cc pc = .ok (.getfield 34, 3)) (q0 : Nat) (hq : ws[q0]? = some (a, oB 6 fs)) (hv : fs[7]? = some v) (k : RUN g nL p l e R s m args below meth c A cells slots Q ws (pc + 3) lv (v :: st)) : RUN g nL p l e R s m args below meth c A cells slots Q ws pc lv (.ref a :: st) := r_get C (C' := RX7) (T := TX7) (N := 8) (ci := 6) (ref := RX7) inlX7 rfl 7 (by decide) (in_r4 (List.mem_of_getElem? (i := 9) rfl)) rfl hd q0 hq hv k
theorem pf_X7_34 (C : CX g RX7 cc nL ret A p s m args meth c) {a : Nat} {fs : List Value} {x : Int} {ws' : va_W} (hd : decode cc pc = .ok (.putfield 34, 3)) (q0 : Nat) (hq : ws[q0]? = some (a, oB 6 fs)) (hlen : 7 < fs.length) (hw : ws.set q0 (a, oB 6 (fs.set 7 (vi x))) = ws') (k : RUN g nL p l e R s m args below meth c A cells slots Q ws' (pc + 3) lv st) : RUN g nL p l e R s m args below meth c A cells slots Q ws pc lv (vi x :: .ref a :: st) := r_put (host := RX11) C (C' := RX7) (T := TX7) (N := 8) (ci := 6) (ref := RX7) (ty := .int) inlX7 tyX7 tyX7_ok nmX7 rfl 7 (by decide) (in_r4 (List.mem_of_getElem? (i := 9) rfl)) rfl rfl rfl hd q0 hq hlen (vp_nar_int _) rfl hw k
theorem gf_X8_9 (C : CX g RX8 cc nL ret A p s m args meth c) {a : Nat} {fs : List Value} {v : Value} (hd : decode cc pc = .ok (.getfield 9, 3)) (q0 : Nat) (hq : ws[q0]? = some (a, oB 7 fs)) (hv : fs[0]? = some v) (k : RUN g nL p l e R s m args below meth c A cells slots Q ws (pc + 3) lv (v :: st)) : RUN g nL p l e R s m args below meth c A cells slots Q ws pc lv (.ref a :: st) := r_get C (C' := RX8) (T := TX8) (N := 2) (ci := 7) (ref := RX8) inlX8 rfl 0 (by decide) (in_r3 (List.mem_of_getElem? (i := 13) rfl)) rfl hd q0 hq hv k
theorem pf_X8_9 (C : CX g RX8 cc nL ret A p s m args meth c) {a : Nat} {fs : List Value} {b : Nat} {ws' : va_W} (hin : meth.name = "<init>") (hd : decode cc pc = .ok (.putfield 9, 3)) (q0 : Nat) (hq : ws[q0]? = some (a, oB 7 fs)) (hlen : 0 < fs.length) (hw : ws.set q0 (a, oB 7 (fs.set 0 (.ref b))) = ws') (k : RUN g nL p l e R s m args below meth c A cells slots Q ws' (pc + 3) lv st) : RUN g nL p l e R s m args below meth c A cells slots Q ws pc lv (.ref b :: .ref a :: st) := r_putF (host := RX11) C (C' := RX8) (T := TX8) (N := 2) (ci := 7) (ref := RX8) (ty := (.array .char)) inlX8 tyX8 tyX8_ok nmX8 rfl 0 (by decide) (in_r3 (List.mem_of_getElem? (i := 13) rfl)) rfl rfl hin rfl rfl hd q0 hq hlen rfl rfl hw k
theorem gf_X8_15 (C : CX g RX8 cc nL ret A p s m args meth c) {a : Nat} {fs : List Value} {v : Value} (hd : decode cc pc = .ok (.getfield 15, 3)) (q0 : Nat) (hq : ws[q0]? = some (a, oB 7 fs)) (hv : fs[1]? = some v) (k : RUN g nL p l e R s m args below meth c A cells slots Q ws (pc + 3) lv (v :: st)) : RUN g nL p l e R s m args below meth c A cells slots Q ws pc lv (.ref a :: st) := r_get C (C' := RX8) (T := TX8) (N := 2) (ci := 7) (ref := RX8) inlX8 rfl 1 (by decide) (in_r3 (List.mem_of_getElem? (i := 14) rfl)) rfl hd q0 hq hv k
theorem pf_X8_15 (C : CX g RX8 cc nL ret A p s m args meth c) {a : Nat} {fs : List Value} {x : Int} {ws' : va_W} (hd : decode cc pc = .ok (.putfield 15, 3)) (q0 : Nat) (hq : ws[q0]? = some (a, oB 7 fs)) (hlen : 1 < fs.length) (hw : ws.set q0 (a, oB 7 (fs.set 1 (vi x))) = ws') (k : RUN g nL p l e R s m args below meth c A cells slots Q ws' (pc + 3) lv st) : RUN g nL p l e R s m args below meth c A cells slots Q ws pc lv (vi x :: .ref a :: st) := r_put (host := RX11) C (C' := RX8) (T := TX8) (N := 2) (ci := 7) (ref := RX8) (ty := .int) inlX8 tyX8 tyX8_ok nmX8 rfl 1 (by decide) (in_r3 (List.mem_of_getElem? (i := 14) rfl)) rfl rfl rfl hd q0 hq hlen (vp_nar_int _) rfl hw k
theorem gf_X9_9 (C : CX g RX9 cc nL ret A p s m args meth c) {a : Nat} {fs : List Value} {v : Value} (hd : decode cc pc = .ok (.getfield 9, 3)) (q0 : Nat) (hq : ws[q0]? = some (a, oB 8 fs)) (hv : fs[0]? = some v) (k : RUN g nL p l e R s m args below meth c A cells slots Q ws (pc + 3) lv (v :: st)) : RUN g nL p l e R s m args below meth c A cells slots Q ws pc lv (.ref a :: st) := r_get C (C' := RX9) (T := TX9) (N := 7) (ci := 8) (ref := RX9) inlX9 rfl 0 (by decide) (in_r6 (List.mem_of_getElem? (i := 1) rfl)) rfl hd q0 hq hv k
theorem pf_X9_9 (C : CX g RX9 cc nL ret A p s m args meth c) {a : Nat} {fs : List Value} {b : Nat} {ws' : va_W} (hin : meth.name = "<init>") (hd : decode cc pc = .ok (.putfield 9, 3)) (q0 : Nat) (hq : ws[q0]? = some (a, oB 8 fs)) (hlen : 0 < fs.length) (hw : ws.set q0 (a, oB 8 (fs.set 0 (.ref b))) = ws') (k : RUN g nL p l e R s m args below meth c A cells slots Q ws' (pc + 3) lv st) : RUN g nL p l e R s m args below meth c A cells slots Q ws pc lv (.ref b :: .ref a :: st) := r_putF (host := RX11) C (C' := RX9) (T := TX9) (N := 7) (ci := 8) (ref := RX9) (ty := (.array .int)) inlX9 tyX9 tyX9_ok nmX9 rfl 0 (by decide) (in_r6 (List.mem_of_getElem? (i := 1) rfl)) rfl rfl hin rfl rfl hd q0 hq hlen rfl rfl hw k
theorem gf_X9_15 (C : CX g RX9 cc nL ret A p s m args meth c) {a : Nat} {fs : List Value} {v : Value} (hd : decode cc pc = .ok (.getfield 15, 3)) (q0 : Nat) (hq : ws[q0]? = some (a, oB 8 fs)) (hv : fs[1]? = some v) (k : RUN g nL p l e R s m args below meth c A cells slots Q ws (pc + 3) lv (v :: st)) : RUN g nL p l e R s m args below meth c A cells slots Q ws pc lv (.ref a :: st) := r_get C (C' := RX9) (T := TX9) (N := 7) (ci := 8) (ref := RX9) inlX9 rfl 1 (by decide) (in_r6 (List.mem_of_getElem? (i := 2) rfl)) rfl hd q0 hq hv k
theorem pf_X9_15 (C : CX g RX9 cc nL ret A p s m args meth c) {a : Nat} {fs : List Value} {b : Nat} {ws' : va_W} (hin : meth.name = "<init>") (hd : decode cc pc = .ok (.putfield 15, 3)) (q0 : Nat) (hq : ws[q0]? = some (a, oB 8 fs)) (hlen : 1 < fs.length) (hw : ws.set q0 (a, oB 8 (fs.set 1 (.ref b))) = ws') (k : RUN g nL p l e R s m args below meth c A cells slots Q ws' (pc + 3) lv st) : RUN g nL p l e R s m args below meth c A cells slots Q ws pc lv (.ref b :: .ref a :: st) := r_putF (host := RX11) C (C' := RX9) (T := TX9) (N := 7) (ci := 8) (ref := RX9) (ty := (.array .int)) inlX9 tyX9 tyX9_ok nmX9 rfl 1 (by decide) (in_r6 (List.mem_of_getElem? (i := 2) rfl)) rfl rfl hin rfl rfl hd q0 hq hlen rfl rfl hw k
theorem gf_X9_18 (C : CX g RX9 cc nL ret A p s m args meth c) {a : Nat} {fs : List Value} {v : Value} (hd : decode cc pc = .ok (.getfield 18, 3)) (q0 : Nat) (hq : ws[q0]? = some (a, oB 8 fs)) (hv : fs[2]? = some v) (k : RUN g nL p l e R s m args below meth c A cells slots Q ws (pc + 3) lv (v :: st)) : RUN g nL p l e R s m args below meth c A cells slots Q ws pc lv (.ref a :: st) := r_get C (C' := RX9) (T := TX9) (N := 7) (ci := 8) (ref := RX9) inlX9 rfl 2 (by decide) (in_r6 (List.mem_of_getElem? (i := 3) rfl)) rfl hd q0 hq hv k
theorem pf_X9_18 (C : CX g RX9 cc nL ret A p s m args meth c) {a : Nat} {fs : List Value} {x : Int} {ws' : va_W} (hd : decode cc pc = .ok (.putfield 18, 3)) (q0 : Nat) (hq : ws[q0]? = some (a, oB 8 fs)) (hlen : 2 < fs.length) (hw : ws.set q0 (a, oB 8 (fs.set 2 (vi x))) = ws') (k : RUN g nL p l e R s m args below meth c A cells slots Q ws' (pc + 3) lv st) : RUN g nL p l e R s m args below meth c A cells slots Q ws pc lv (vi x :: .ref a :: st) := r_put (host := RX11) C (C' := RX9) (T := TX9) (N := 7) (ci := 8) (ref := RX9) (ty := .int) inlX9 tyX9 tyX9_ok nmX9 rfl 2 (by decide) (in_r6 (List.mem_of_getElem? (i := 3) rfl)) rfl rfl rfl hd q0 hq hlen (vp_nar_int _) rfl hw k
theorem gf_X9_22 (C : CX g RX9 cc nL ret A p s m args meth c) {a : Nat} {fs : List Value} {v : Value} (hd : decode cc pc = .ok (.getfield 22, 3)) (q0 : Nat) (hq : ws[q0]? = some (a, oB 8 fs)) (hv : fs[3]? = some v) (k : RUN g nL p l e R s m args below meth c A cells slots Q ws (pc + 3) lv (v :: st)) : RUN g nL p l e R s m args below meth c A cells slots Q ws pc lv (.ref a :: st) := r_get C (C' := RX9) (T := TX9) (N := 7) (ci := 8) (ref := RX9) inlX9 rfl 3 (by decide) (in_r6 (List.mem_of_getElem? (i := 4) rfl)) rfl hd q0 hq hv k
theorem pf_X9_22 (C : CX g RX9 cc nL ret A p s m args meth c) {a : Nat} {fs : List Value} {x : Int} {ws' : va_W} (hd : decode cc pc = .ok (.putfield 22, 3)) (q0 : Nat) (hq : ws[q0]? = some (a, oB 8 fs)) (hlen : 3 < fs.length) (hw : ws.set q0 (a, oB 8 (fs.set 3 (vi x))) = ws') (k : RUN g nL p l e R s m args below meth c A cells slots Q ws' (pc + 3) lv st) : RUN g nL p l e R s m args below meth c A cells slots Q ws pc lv (vi x :: .ref a :: st) := r_put (host := RX11) C (C' := RX9) (T := TX9) (N := 7) (ci := 8) (ref := RX9) (ty := .int) inlX9 tyX9 tyX9_ok nmX9 rfl 3 (by decide) (in_r6 (List.mem_of_getElem? (i := 4) rfl)) rfl rfl rfl hd q0 hq hlen (vp_nar_int _) rfl hw k
theorem gf_X9_25 (C : CX g RX9 cc nL ret A p s m args meth c) {a : Nat} {fs : List Value} {v : Value} (hd : decode cc pc = .ok (.getfield 25, 3)) (q0 : Nat) (hq : ws[q0]? = some (a, oB 8 fs)) (hv : fs[4]? = some v) (k : RUN g nL p l e R s m args below meth c A cells slots Q ws (pc + 3) lv (v :: st)) : RUN g nL p l e R s m args below meth c A cells slots Q ws pc lv (.ref a :: st) := r_get C (C' := RX9) (T := TX9) (N := 7) (ci := 8) (ref := RX9) inlX9 rfl 4 (by decide) (in_r6 (List.mem_of_getElem? (i := 5) rfl)) rfl hd q0 hq hv k
theorem pf_X9_25 (C : CX g RX9 cc nL ret A p s m args meth c) {a : Nat} {fs : List Value} {x : Int} {ws' : va_W} (hd : decode cc pc = .ok (.putfield 25, 3)) (q0 : Nat) (hq : ws[q0]? = some (a, oB 8 fs)) (hlen : 4 < fs.length) (hw : ws.set q0 (a, oB 8 (fs.set 4 (vi x))) = ws') (k : RUN g nL p l e R s m args below meth c A cells slots Q ws' (pc + 3) lv st) : RUN g nL p l e R s m args below meth c A cells slots Q ws pc lv (vi x :: .ref a :: st) := r_put (host := RX11) C (C' := RX9) (T := TX9) (N := 7) (ci := 8) (ref := RX9) (ty := .int) inlX9 tyX9 tyX9_ok nmX9 rfl 4 (by decide) (in_r6 (List.mem_of_getElem? (i := 5) rfl)) rfl rfl rfl hd q0 hq hlen (vp_nar_int _) rfl hw k
theorem gf_X9_28 (C : CX g RX9 cc nL ret A p s m args meth c) {a : Nat} {fs : List Value} {v : Value} (hd : decode cc pc = .ok (.getfield 28, 3)) (q0 : Nat) (hq : ws[q0]? = some (a, oB 8 fs)) (hv : fs[5]? = some v) (k : RUN g nL p l e R s m args below meth c A cells slots Q ws (pc + 3) lv (v :: st)) : RUN g nL p l e R s m args below meth c A cells slots Q ws pc lv (.ref a :: st) := r_get C (C' := RX9) (T := TX9) (N := 7) (ci := 8) (ref := RX9) inlX9 rfl 5 (by decide) (in_r6 (List.mem_of_getElem? (i := 6) rfl)) rfl hd q0 hq hv k
theorem pf_X9_28 (C : CX g RX9 cc nL ret A p s m args meth c) {a : Nat} {fs : List Value} {x : Int} {ws' : va_W} (hd : decode cc pc = .ok (.putfield 28, 3)) (q0 : Nat) (hq : ws[q0]? = some (a, oB 8 fs)) (hlen : 5 < fs.length) (hw : ws.set q0 (a, oB 8 (fs.set 5 (vi x))) = ws') (k : RUN g nL p l e R s m args below meth c A cells slots Q ws' (pc + 3) lv st) : RUN g nL p l e R s m args below meth c A cells slots Q ws pc lv (vi x :: .ref a :: st) := r_put (host := RX11) C (C' := RX9) (T := TX9) (N := 7) (ci := 8) (ref := RX9) (ty := .int) inlX9 tyX9 tyX9_ok nmX9 rfl 5 (by decide) (in_r6 (List.mem_of_getElem? (i := 6) rfl)) rfl rfl rfl hd q0 hq hlen (vp_nar_int _) rfl hw k
theorem gf_X9_31 (C : CX g RX9 cc nL ret A p s m args meth c) {a : Nat} {fs : List Value} {v : Value} (hd : decode cc pc = .ok (.getfield 31, 3)) (q0 : Nat) (hq : ws[q0]? = some (a, oB 8 fs)) (hv : fs[6]? = some v) (k : RUN g nL p l e R s m args below meth c A cells slots Q ws (pc + 3) lv (v :: st)) : RUN g nL p l e R s m args below meth c A cells slots Q ws pc lv (.ref a :: st) := r_get C (C' := RX9) (T := TX9) (N := 7) (ci := 8) (ref := RX9) inlX9 rfl 6 (by decide) (in_r6 (List.mem_of_getElem? (i := 7) rfl)) rfl hd q0 hq hv k
theorem pf_X9_31 (C : CX g RX9 cc nL ret A p s m args meth c) {a : Nat} {fs : List Value} {x : Int} {ws' : va_W} (hd : decode cc pc = .ok (.putfield 31, 3)) (q0 : Nat) (hq : ws[q0]? = some (a, oB 8 fs)) (hlen : 6 < fs.length) (hw : ws.set q0 (a, oB 8 (fs.set 6 (vi x))) = ws') (k : RUN g nL p l e R s m args below meth c A cells slots Q ws' (pc + 3) lv st) : RUN g nL p l e R s m args below meth c A cells slots Q ws pc lv (vi x :: .ref a :: st) := r_put (host := RX11) C (C' := RX9) (T := TX9) (N := 7) (ci := 8) (ref := RX9) (ty := .int) inlX9 tyX9 tyX9_ok nmX9 rfl 6 (by decide) (in_r6 (List.mem_of_getElem? (i := 7) rfl)) rfl rfl rfl hd q0 hq hlen (vp_nar_int _) rfl hw k
theorem gf_X9_34 (C : CX g RX9 cc nL ret A p s m args meth c) {a : Nat} {fs : List Value} {v : Value} (hd : decode cc pc = .ok (.getfield 34, 3)) (q0 : Nat) (hq : ws[q0]? = some (a, oB 6 fs)) (hv : fs[5]? = some v) (k : RUN g nL p l e R s m args below meth c A cells slots Q ws (pc + 3) lv (v :: st)) : RUN g nL p l e R s m args below meth c A cells slots Q ws pc lv (.ref a :: st) := r_getN (host := RX11) C (C' := RX7) (T := TX7) (N := 8) (ci := 6) (ref := RX7) inlX7 rfl 5 (by decide) (List.mem_of_getElem? (i := 13) rfl) rfl hd q0 hq hv k
theorem pf_X9_34 (C : CX g RX9 cc nL ret A p s m args meth c) {a : Nat} {fs : List Value} {x : Int} {ws' : va_W} (hd : decode cc pc = .ok (.putfield 34, 3)) (q0 : Nat) (hq : ws[q0]? = some (a, oB 6 fs)) (hlen : 5 < fs.length) (hw : ws.set q0 (a, oB 6 (fs.set 5 (vi x))) = ws') (k : RUN g nL p l e R s m args below meth c A cells slots Q ws' (pc + 3) lv st) : RUN g nL p l e R s m args below meth c A cells slots Q ws pc lv (vi x :: .ref a :: st) := r_putN (host := RX11) C (C' := RX7) (T := TX7) (N := 8) (ci := 6) (ref := RX7) (ty := .int) inlX7 tyX7 tyX7_ok nmX7 rfl 5 (by decide) (List.mem_of_getElem? (i := 13) rfl) rfl rfl rfl hd q0 hq hlen (vp_nar_int _) rfl hw k
theorem gf_X9_37 (C : CX g RX9 cc nL ret A p s m args meth c) {a : Nat} {fs : List Value} {v : Value} (hd : decode cc pc = .ok (.getfield 37, 3)) (q0 : Nat) (hq : ws[q0]? = some (a, oB 6 fs)) (hv : fs[3]? = some v) (k : RUN g nL p l e R s m args below meth c A cells slots Q ws (pc + 3) lv (v :: st)) : RUN g nL p l e R s m args below meth c A cells slots Q ws pc lv (.ref a :: st) := r_getN (host := RX11) C (C' := RX7) (T := TX7) (N := 8) (ci := 6) (ref := RX7) inlX7 rfl 3 (by decide) (List.mem_of_getElem? (i := 11) rfl) rfl hd q0 hq hv k
theorem gf_X9_40 (C : CX g RX9 cc nL ret A p s m args meth c) {a : Nat} {fs : List Value} {v : Value} (hd : decode cc pc = .ok (.getfield 40, 3)) (q0 : Nat) (hq : ws[q0]? = some (a, oB 6 fs)) (hv : fs[4]? = some v) (k : RUN g nL p l e R s m args below meth c A cells slots Q ws (pc + 3) lv (v :: st)) : RUN g nL p l e R s m args below meth c A cells slots Q ws pc lv (.ref a :: st) := r_getN (host := RX11) C (C' := RX7) (T := TX7) (N := 8) (ci := 6) (ref := RX7) inlX7 rfl 4 (by decide) (List.mem_of_getElem? (i := 12) rfl) rfl hd q0 hq hv k
end
theorem kv_J0_335 : KV RJ0 335 RJ0 yJ0_coder_7d493 cJ0_coder_7d493 1 (some .byte) 0 := ⟨(in_r7 (List.mem_of_getElem? (i := 1) rfl)), (in_r7 (List.mem_of_getElem? (i := 2) rfl)), (in_r7 (List.mem_of_getElem? (i := 3) rfl)), (in_r6 (List.mem_of_getElem? (i := 22) rfl)), (in_r7 (List.mem_of_getElem? (i := 4) rfl)), by decide +kernel⟩
theorem kv_J0_492 : KV RJ0 492 RJ0 yJ0_isLatin1_aae02 cJ0_isLatin1_aae02 1 (some .boolean) 0 := ⟨(in_r7 (List.mem_of_getElem? (i := 11) rfl)), (in_r7 (List.mem_of_getElem? (i := 12) rfl)), (in_r7 (List.mem_of_getElem? (i := 13) rfl)), (in_r6 (List.mem_of_getElem? (i := 22) rfl)), (in_r7 (List.mem_of_getElem? (i := 14) rfl)), by decide +kernel⟩
theorem ks_J0_495 : KS RJ0 495 yJ1_charAt_3b067 cJ1_charAt_3b067 2 (some .char) 2 := ⟨(in_r7 (List.mem_of_getElem? (i := 15) rfl)), (in_r7 (List.mem_of_getElem? (i := 16) rfl)), (in_r7 (List.mem_of_getElem? (i := 17) rfl)), (in_r7 (List.mem_of_getElem? (i := 18) rfl)), by decide +kernel⟩
theorem ks_J0_498 : KS RJ0 498 yJ2_charAt_3b067 cJ2_charAt_3b067 2 (some .char) 2 := ⟨(in_r8 (List.mem_of_getElem? (i := 3) rfl)), (in_r8 (List.mem_of_getElem? (i := 4) rfl)), (in_r8 (List.mem_of_getElem? (i := 5) rfl)), (in_r8 (List.mem_of_getElem? (i := 6) rfl)), by decide +kernel⟩
theorem ks_J0_1059 : KS RJ0 1059 yJ3_checkIndex_8e157 cJ3_checkIndex_8e157 3 (some .int) 3 := ⟨(in_r7 (List.mem_of_getElem? (i := 23) rfl)), (in_r8 (List.mem_of_getElem? (i := 0) rfl)), (in_r8 (List.mem_of_getElem? (i := 1) rfl)), (in_r8 (List.mem_of_getElem? (i := 2) rfl)), by decide +kernel⟩
theorem ks_J1_9 : KS RJ1 9 yJ0_checkIndex_df160 cJ0_checkIndex_df160 2 none 2 := ⟨(in_r7 (List.mem_of_getElem? (i := 19) rfl)), (in_r7 (List.mem_of_getElem? (i := 20) rfl)), (in_r6 (List.mem_of_getElem? (i := 22) rfl)), (in_r7 (List.mem_of_getElem? (i := 21) rfl)), by decide +kernel⟩
theorem ks_J2_48 : KS RJ2 48 yJ2_length_9d52b cJ2_length_9d52b 1 (some .int) 1 := ⟨(in_r8 (List.mem_of_getElem? (i := 10) rfl)), (in_r8 (List.mem_of_getElem? (i := 11) rfl)), (in_r8 (List.mem_of_getElem? (i := 5) rfl)), (in_r8 (List.mem_of_getElem? (i := 12) rfl)), by decide +kernel⟩
theorem ks_J2_67 : KS RJ2 67 yJ2_checkIndex_2214a cJ2_checkIndex_2214a 2 none 2 := ⟨(in_r8 (List.mem_of_getElem? (i := 7) rfl)), (in_r8 (List.mem_of_getElem? (i := 8) rfl)), (in_r8 (List.mem_of_getElem? (i := 5) rfl)), (in_r8 (List.mem_of_getElem? (i := 9) rfl)), by decide +kernel⟩
theorem ks_J2_71 : KS RJ2 71 yJ2_getChar_3b067 cJ2_getChar_3b067 2 (some .char) 2 := ⟨(in_r8 (List.mem_of_getElem? (i := 14) rfl)), (in_r8 (List.mem_of_getElem? (i := 15) rfl)), (in_r8 (List.mem_of_getElem? (i := 5) rfl)), (in_r8 (List.mem_of_getElem? (i := 16) rfl)), by decide +kernel⟩
theorem ks_J2_414 : KS RJ2 414 yJ0_checkIndex_df160 cJ0_checkIndex_df160 2 none 2 := ⟨(in_r8 (List.mem_of_getElem? (i := 13) rfl)), (in_r7 (List.mem_of_getElem? (i := 20) rfl)), (in_r6 (List.mem_of_getElem? (i := 22) rfl)), (in_r7 (List.mem_of_getElem? (i := 21) rfl)), by decide +kernel⟩
theorem kv_L_13 : KV RL 13 RX11 yX11_write cX11_write 2 (some .int) 1 := ⟨(in_r12 (List.mem_of_getElem? (i := 0) rfl)), (in_r12 (List.mem_of_getElem? (i := 1) rfl)), (in_r12 (List.mem_of_getElem? (i := 2) rfl)), (in_r1 (List.mem_of_getElem? (i := 2) rfl)), (in_r12 (List.mem_of_getElem? (i := 3) rfl)), by decide +kernel⟩
theorem kv_L_17 : KV RL 17 RX12 yX12_write cX12_write 2 (some .int) 1 := ⟨(in_r12 (List.mem_of_getElem? (i := 4) rfl)), (in_r12 (List.mem_of_getElem? (i := 5) rfl)), (in_r12 (List.mem_of_getElem? (i := 6) rfl)), (in_r1 (List.mem_of_getElem? (i := 5) rfl)), (in_r12 (List.mem_of_getElem? (i := 7) rfl)), by decide +kernel⟩
theorem kv_L_18 : KV RL 18 RX11 yX11_wipe cX11_wipe 2 (some .int) 0 := ⟨(in_r12 (List.mem_of_getElem? (i := 12) rfl)), (in_r12 (List.mem_of_getElem? (i := 13) rfl)), (in_r12 (List.mem_of_getElem? (i := 14) rfl)), (in_r1 (List.mem_of_getElem? (i := 2) rfl)), (in_r12 (List.mem_of_getElem? (i := 15) rfl)), by decide +kernel⟩
theorem kv_L_22 : KV RL 22 RX12 yX12_wipe cX12_wipe 2 (some .int) 0 := ⟨(in_r12 (List.mem_of_getElem? (i := 16) rfl)), (in_r12 (List.mem_of_getElem? (i := 17) rfl)), (in_r12 (List.mem_of_getElem? (i := 18) rfl)), (in_r1 (List.mem_of_getElem? (i := 5) rfl)), (in_r12 (List.mem_of_getElem? (i := 19) rfl)), by decide +kernel⟩
theorem kv_L_23 : KV RL 23 RX11 yX11_fault cX11_fault 1 (some .int) 0 := ⟨(in_r12 (List.mem_of_getElem? (i := 20) rfl)), (in_r12 (List.mem_of_getElem? (i := 21) rfl)), (in_r12 (List.mem_of_getElem? (i := 22) rfl)), (in_r1 (List.mem_of_getElem? (i := 2) rfl)), (in_r12 (List.mem_of_getElem? (i := 23) rfl)), by decide +kernel⟩
theorem kv_L_26 : KV RL 26 RX12 yX12_fault cX12_fault 1 (some .int) 0 := ⟨(in_r13 (List.mem_of_getElem? (i := 0) rfl)), (in_r13 (List.mem_of_getElem? (i := 1) rfl)), (in_r13 (List.mem_of_getElem? (i := 2) rfl)), (in_r1 (List.mem_of_getElem? (i := 5) rfl)), (in_r13 (List.mem_of_getElem? (i := 3) rfl)), by decide +kernel⟩
theorem kv_L_27 : KV RL 27 RX11 yX11_lay cX11_lay 1 (some .int) 0 := ⟨(in_r14 (List.mem_of_getElem? (i := 17) rfl)), (in_r14 (List.mem_of_getElem? (i := 18) rfl)), (in_r14 (List.mem_of_getElem? (i := 19) rfl)), (in_r1 (List.mem_of_getElem? (i := 2) rfl)), (in_r14 (List.mem_of_getElem? (i := 20) rfl)), by decide +kernel⟩
theorem kv_L_30 : KV RL 30 RX12 yX12_lay cX12_lay 2 (some .int) 0 := ⟨(in_r15 (List.mem_of_getElem? (i := 16) rfl)), (in_r15 (List.mem_of_getElem? (i := 17) rfl)), (in_r15 (List.mem_of_getElem? (i := 18) rfl)), (in_r1 (List.mem_of_getElem? (i := 5) rfl)), (in_r15 (List.mem_of_getElem? (i := 19) rfl)), by decide +kernel⟩
theorem kv_L_31 : KV RL 31 RX11 yX11_edge cX11_edge 4 (some .int) 3 := ⟨(in_r16 (List.mem_of_getElem? (i := 3) rfl)), (in_r16 (List.mem_of_getElem? (i := 4) rfl)), (in_r16 (List.mem_of_getElem? (i := 5) rfl)), (in_r1 (List.mem_of_getElem? (i := 2) rfl)), (in_r16 (List.mem_of_getElem? (i := 6) rfl)), by decide +kernel⟩
theorem kv_L_35 : KV RL 35 RX12 yX12_edge cX12_edge 4 (some .int) 3 := ⟨(in_r17 (List.mem_of_getElem? (i := 10) rfl)), (in_r17 (List.mem_of_getElem? (i := 11) rfl)), (in_r17 (List.mem_of_getElem? (i := 12) rfl)), (in_r1 (List.mem_of_getElem? (i := 5) rfl)), (in_r17 (List.mem_of_getElem? (i := 13) rfl)), by decide +kernel⟩
theorem kv_L_36 : KV RL 36 RX11 yX11_dot cX11_dot 3 (some .int) 2 := ⟨(in_r17 (List.mem_of_getElem? (i := 23) rfl)), (in_r18 (List.mem_of_getElem? (i := 0) rfl)), (in_r18 (List.mem_of_getElem? (i := 1) rfl)), (in_r1 (List.mem_of_getElem? (i := 2) rfl)), (in_r18 (List.mem_of_getElem? (i := 2) rfl)), by decide +kernel⟩
theorem kv_L_40 : KV RL 40 RX12 yX12_dot cX12_dot 3 (some .int) 2 := ⟨(in_r18 (List.mem_of_getElem? (i := 5) rfl)), (in_r18 (List.mem_of_getElem? (i := 6) rfl)), (in_r18 (List.mem_of_getElem? (i := 7) rfl)), (in_r1 (List.mem_of_getElem? (i := 5) rfl)), (in_r18 (List.mem_of_getElem? (i := 8) rfl)), by decide +kernel⟩
theorem kv_L_41 : KV RL 41 RX11 yX11_drop cX11_drop 2 (some .int) 1 := ⟨(in_r18 (List.mem_of_getElem? (i := 9) rfl)), (in_r18 (List.mem_of_getElem? (i := 10) rfl)), (in_r18 (List.mem_of_getElem? (i := 11) rfl)), (in_r1 (List.mem_of_getElem? (i := 2) rfl)), (in_r18 (List.mem_of_getElem? (i := 12) rfl)), by decide +kernel⟩
theorem kv_L_44 : KV RL 44 RX12 yX12_drop cX12_drop 3 (some .int) 1 := ⟨(in_r18 (List.mem_of_getElem? (i := 21) rfl)), (in_r18 (List.mem_of_getElem? (i := 22) rfl)), (in_r18 (List.mem_of_getElem? (i := 23) rfl)), (in_r1 (List.mem_of_getElem? (i := 5) rfl)), (in_r19 (List.mem_of_getElem? (i := 0) rfl)), by decide +kernel⟩
theorem kv_L_45 : KV RL 45 RX11 yX11_measure cX11_measure 4 (some .int) 2 := ⟨(in_r19 (List.mem_of_getElem? (i := 5) rfl)), (in_r19 (List.mem_of_getElem? (i := 6) rfl)), (in_r19 (List.mem_of_getElem? (i := 7) rfl)), (in_r1 (List.mem_of_getElem? (i := 2) rfl)), (in_r19 (List.mem_of_getElem? (i := 8) rfl)), by decide +kernel⟩
theorem kv_L_48 : KV RL 48 RX12 yX12_measure cX12_measure 4 (some .int) 2 := ⟨(in_r19 (List.mem_of_getElem? (i := 9) rfl)), (in_r19 (List.mem_of_getElem? (i := 10) rfl)), (in_r19 (List.mem_of_getElem? (i := 11) rfl)), (in_r1 (List.mem_of_getElem? (i := 5) rfl)), (in_r19 (List.mem_of_getElem? (i := 12) rfl)), by decide +kernel⟩
theorem kv_L_49 : KV RL 49 RX11 yX11_undo cX11_undo 1 (some .int) 0 := ⟨(in_r19 (List.mem_of_getElem? (i := 13) rfl)), (in_r19 (List.mem_of_getElem? (i := 14) rfl)), (in_r19 (List.mem_of_getElem? (i := 15) rfl)), (in_r1 (List.mem_of_getElem? (i := 2) rfl)), (in_r19 (List.mem_of_getElem? (i := 16) rfl)), by decide +kernel⟩
theorem kv_L_52 : KV RL 52 RX12 yX12_undo cX12_undo 2 (some .int) 0 := ⟨(in_r19 (List.mem_of_getElem? (i := 21) rfl)), (in_r19 (List.mem_of_getElem? (i := 22) rfl)), (in_r19 (List.mem_of_getElem? (i := 23) rfl)), (in_r1 (List.mem_of_getElem? (i := 5) rfl)), (in_r20 (List.mem_of_getElem? (i := 0) rfl)), by decide +kernel⟩
theorem kv_L_53 : KV RL 53 RX11 yX11_cell cX11_cell 3 (some .int) 2 := ⟨(in_r20 (List.mem_of_getElem? (i := 1) rfl)), (in_r20 (List.mem_of_getElem? (i := 2) rfl)), (in_r20 (List.mem_of_getElem? (i := 3) rfl)), (in_r1 (List.mem_of_getElem? (i := 2) rfl)), (in_r20 (List.mem_of_getElem? (i := 4) rfl)), by decide +kernel⟩
theorem kv_L_56 : KV RL 56 RX12 yX12_cell cX12_cell 3 (some .int) 2 := ⟨(in_r20 (List.mem_of_getElem? (i := 5) rfl)), (in_r20 (List.mem_of_getElem? (i := 6) rfl)), (in_r20 (List.mem_of_getElem? (i := 7) rfl)), (in_r1 (List.mem_of_getElem? (i := 5) rfl)), (in_r20 (List.mem_of_getElem? (i := 8) rfl)), by decide +kernel⟩
theorem kv_L_57 : KV RL 57 RX11 yX11_far cX11_far 3 (some .int) 2 := ⟨(in_r20 (List.mem_of_getElem? (i := 9) rfl)), (in_r20 (List.mem_of_getElem? (i := 10) rfl)), (in_r20 (List.mem_of_getElem? (i := 11) rfl)), (in_r1 (List.mem_of_getElem? (i := 2) rfl)), (in_r20 (List.mem_of_getElem? (i := 12) rfl)), by decide +kernel⟩
theorem kv_L_60 : KV RL 60 RX12 yX12_far cX12_far 3 (some .int) 2 := ⟨(in_r21 (List.mem_of_getElem? (i := 16) rfl)), (in_r21 (List.mem_of_getElem? (i := 17) rfl)), (in_r21 (List.mem_of_getElem? (i := 18) rfl)), (in_r1 (List.mem_of_getElem? (i := 5) rfl)), (in_r21 (List.mem_of_getElem? (i := 19) rfl)), by decide +kernel⟩
theorem kv_L_61 : KV RL 61 RX11 yX11_nearest cX11_nearest 8 (some .int) 2 := ⟨(in_r22 (List.mem_of_getElem? (i := 8) rfl)), (in_r22 (List.mem_of_getElem? (i := 9) rfl)), (in_r22 (List.mem_of_getElem? (i := 10) rfl)), (in_r1 (List.mem_of_getElem? (i := 2) rfl)), (in_r22 (List.mem_of_getElem? (i := 11) rfl)), by decide +kernel⟩
theorem kv_L_64 : KV RL 64 RX12 yX12_nearest cX12_nearest 4 (some .int) 2 := ⟨(in_r23 (List.mem_of_getElem? (i := 0) rfl)), (in_r23 (List.mem_of_getElem? (i := 1) rfl)), (in_r23 (List.mem_of_getElem? (i := 2) rfl)), (in_r1 (List.mem_of_getElem? (i := 5) rfl)), (in_r23 (List.mem_of_getElem? (i := 3) rfl)), by decide +kernel⟩
theorem kv_L_65 : KV RL 65 RX11 yX11_rings cX11_rings 2 (some .int) 1 := ⟨(in_r23 (List.mem_of_getElem? (i := 4) rfl)), (in_r23 (List.mem_of_getElem? (i := 5) rfl)), (in_r23 (List.mem_of_getElem? (i := 6) rfl)), (in_r1 (List.mem_of_getElem? (i := 2) rfl)), (in_r23 (List.mem_of_getElem? (i := 7) rfl)), by decide +kernel⟩
theorem kv_L_68 : KV RL 68 RX12 yX12_rings cX12_rings 5 (some .int) 1 := ⟨(in_r23 (List.mem_of_getElem? (i := 12) rfl)), (in_r23 (List.mem_of_getElem? (i := 13) rfl)), (in_r23 (List.mem_of_getElem? (i := 14) rfl)), (in_r1 (List.mem_of_getElem? (i := 5) rfl)), (in_r23 (List.mem_of_getElem? (i := 15) rfl)), by decide +kernel⟩
theorem kv_L_69 : KV RL 69 RX11 yX11_turn cX11_turn 4 (some .int) 3 := ⟨(in_r23 (List.mem_of_getElem? (i := 16) rfl)), (in_r23 (List.mem_of_getElem? (i := 17) rfl)), (in_r23 (List.mem_of_getElem? (i := 18) rfl)), (in_r1 (List.mem_of_getElem? (i := 2) rfl)), (in_r23 (List.mem_of_getElem? (i := 19) rfl)), by decide +kernel⟩
theorem kv_L_72 : KV RL 72 RX12 yX12_turn cX12_turn 4 (some .int) 3 := ⟨(in_r23 (List.mem_of_getElem? (i := 20) rfl)), (in_r23 (List.mem_of_getElem? (i := 21) rfl)), (in_r23 (List.mem_of_getElem? (i := 22) rfl)), (in_r1 (List.mem_of_getElem? (i := 5) rfl)), (in_r23 (List.mem_of_getElem? (i := 23) rfl)), by decide +kernel⟩
theorem kv_L_73 : KV RL 73 RX11 yX11_lies cX11_lies 4 (some .int) 2 := ⟨(in_r24 (List.mem_of_getElem? (i := 0) rfl)), (in_r24 (List.mem_of_getElem? (i := 1) rfl)), (in_r24 (List.mem_of_getElem? (i := 2) rfl)), (in_r1 (List.mem_of_getElem? (i := 2) rfl)), (in_r24 (List.mem_of_getElem? (i := 3) rfl)), by decide +kernel⟩
theorem kv_L_76 : KV RL 76 RX12 yX12_lies cX12_lies 3 (some .int) 2 := ⟨(in_r24 (List.mem_of_getElem? (i := 22) rfl)), (in_r24 (List.mem_of_getElem? (i := 23) rfl)), (in_r25 (List.mem_of_getElem? (i := 0) rfl)), (in_r1 (List.mem_of_getElem? (i := 5) rfl)), (in_r25 (List.mem_of_getElem? (i := 1) rfl)), by decide +kernel⟩
theorem kv_L_77 : KV RL 77 RX11 yX11_pose cX11_pose 4 (some .int) 3 := ⟨(in_r25 (List.mem_of_getElem? (i := 13) rfl)), (in_r25 (List.mem_of_getElem? (i := 14) rfl)), (in_r25 (List.mem_of_getElem? (i := 15) rfl)), (in_r1 (List.mem_of_getElem? (i := 2) rfl)), (in_r25 (List.mem_of_getElem? (i := 16) rfl)), by decide +kernel⟩
theorem kv_L_80 : KV RL 80 RX12 yX12_pose cX12_pose 4 (some .int) 3 := ⟨(in_r26 (List.mem_of_getElem? (i := 2) rfl)), (in_r26 (List.mem_of_getElem? (i := 3) rfl)), (in_r26 (List.mem_of_getElem? (i := 4) rfl)), (in_r1 (List.mem_of_getElem? (i := 5) rfl)), (in_r26 (List.mem_of_getElem? (i := 5) rfl)), by decide +kernel⟩
theorem kv_L_81 : KV RL 81 RX11 yX11_fits cX11_fits 5 (some .int) 0 := ⟨(in_r26 (List.mem_of_getElem? (i := 18) rfl)), (in_r26 (List.mem_of_getElem? (i := 19) rfl)), (in_r26 (List.mem_of_getElem? (i := 20) rfl)), (in_r1 (List.mem_of_getElem? (i := 2) rfl)), (in_r26 (List.mem_of_getElem? (i := 21) rfl)), by decide +kernel⟩
theorem kv_L_84 : KV RL 84 RX12 yX12_fits cX12_fits 3 (some .int) 0 := ⟨(in_r26 (List.mem_of_getElem? (i := 23) rfl)), (in_r27 (List.mem_of_getElem? (i := 0) rfl)), (in_r27 (List.mem_of_getElem? (i := 1) rfl)), (in_r1 (List.mem_of_getElem? (i := 5) rfl)), (in_r27 (List.mem_of_getElem? (i := 2) rfl)), by decide +kernel⟩
theorem kv_L_85 : KV RL 85 RX11 yX11_bound cX11_bound 13 (some .int) 3 := ⟨(in_r27 (List.mem_of_getElem? (i := 3) rfl)), (in_r27 (List.mem_of_getElem? (i := 4) rfl)), (in_r27 (List.mem_of_getElem? (i := 5) rfl)), (in_r1 (List.mem_of_getElem? (i := 2) rfl)), (in_r27 (List.mem_of_getElem? (i := 6) rfl)), by decide +kernel⟩
theorem kv_L_88 : KV RL 88 RX12 yX12_bound cX12_bound 12 (some .int) 3 := ⟨(in_r27 (List.mem_of_getElem? (i := 13) rfl)), (in_r27 (List.mem_of_getElem? (i := 14) rfl)), (in_r27 (List.mem_of_getElem? (i := 15) rfl)), (in_r1 (List.mem_of_getElem? (i := 5) rfl)), (in_r27 (List.mem_of_getElem? (i := 16) rfl)), by decide +kernel⟩
theorem kv_L_89 : KV RL 89 RX11 yX11_tells cX11_tells 5 (some .int) 3 := ⟨(in_r27 (List.mem_of_getElem? (i := 18) rfl)), (in_r27 (List.mem_of_getElem? (i := 19) rfl)), (in_r27 (List.mem_of_getElem? (i := 20) rfl)), (in_r1 (List.mem_of_getElem? (i := 2) rfl)), (in_r27 (List.mem_of_getElem? (i := 21) rfl)), by decide +kernel⟩
theorem kv_L_92 : KV RL 92 RX12 yX12_tells cX12_tells 4 (some .int) 3 := ⟨(in_r28 (List.mem_of_getElem? (i := 7) rfl)), (in_r28 (List.mem_of_getElem? (i := 8) rfl)), (in_r28 (List.mem_of_getElem? (i := 9) rfl)), (in_r1 (List.mem_of_getElem? (i := 5) rfl)), (in_r28 (List.mem_of_getElem? (i := 10) rfl)), by decide +kernel⟩
theorem kv_L_93 : KV RL 93 RX11 yX11_best cX11_best 4 (some .int) 2 := ⟨(in_r28 (List.mem_of_getElem? (i := 19) rfl)), (in_r28 (List.mem_of_getElem? (i := 20) rfl)), (in_r28 (List.mem_of_getElem? (i := 21) rfl)), (in_r1 (List.mem_of_getElem? (i := 2) rfl)), (in_r28 (List.mem_of_getElem? (i := 22) rfl)), by decide +kernel⟩
theorem kv_L_96 : KV RL 96 RX12 yX12_best cX12_best 3 (some .int) 2 := ⟨(in_r30 (List.mem_of_getElem? (i := 13) rfl)), (in_r30 (List.mem_of_getElem? (i := 14) rfl)), (in_r30 (List.mem_of_getElem? (i := 15) rfl)), (in_r1 (List.mem_of_getElem? (i := 5) rfl)), (in_r30 (List.mem_of_getElem? (i := 16) rfl)), by decide +kernel⟩
theorem kv_L_97 : KV RL 97 RX11 yX11_spread cX11_spread 5 (some .int) 3 := ⟨(in_r31 (List.mem_of_getElem? (i := 17) rfl)), (in_r31 (List.mem_of_getElem? (i := 18) rfl)), (in_r31 (List.mem_of_getElem? (i := 19) rfl)), (in_r1 (List.mem_of_getElem? (i := 2) rfl)), (in_r31 (List.mem_of_getElem? (i := 20) rfl)), by decide +kernel⟩
theorem kv_L_100 : KV RL 100 RX12 yX12_spread cX12_spread 4 (some .int) 3 := ⟨(in_r32 (List.mem_of_getElem? (i := 11) rfl)), (in_r32 (List.mem_of_getElem? (i := 12) rfl)), (in_r32 (List.mem_of_getElem? (i := 13) rfl)), (in_r1 (List.mem_of_getElem? (i := 5) rfl)), (in_r32 (List.mem_of_getElem? (i := 14) rfl)), by decide +kernel⟩
theorem kv_L_101 : KV RL 101 RX11 yX11_take cX11_take 3 (some .int) 2 := ⟨(in_r32 (List.mem_of_getElem? (i := 15) rfl)), (in_r32 (List.mem_of_getElem? (i := 16) rfl)), (in_r32 (List.mem_of_getElem? (i := 17) rfl)), (in_r1 (List.mem_of_getElem? (i := 2) rfl)), (in_r32 (List.mem_of_getElem? (i := 18) rfl)), by decide +kernel⟩
theorem kv_L_104 : KV RL 104 RX12 yX12_take cX12_take 3 (some .int) 2 := ⟨(in_r33 (List.mem_of_getElem? (i := 7) rfl)), (in_r33 (List.mem_of_getElem? (i := 8) rfl)), (in_r33 (List.mem_of_getElem? (i := 9) rfl)), (in_r1 (List.mem_of_getElem? (i := 5) rfl)), (in_r33 (List.mem_of_getElem? (i := 10) rfl)), by decide +kernel⟩
theorem kv_L_105 : KV RL 105 RX11 yX11_takes cX11_takes 5 (some .int) 2 := ⟨(in_r33 (List.mem_of_getElem? (i := 18) rfl)), (in_r33 (List.mem_of_getElem? (i := 19) rfl)), (in_r33 (List.mem_of_getElem? (i := 20) rfl)), (in_r1 (List.mem_of_getElem? (i := 2) rfl)), (in_r33 (List.mem_of_getElem? (i := 21) rfl)), by decide +kernel⟩
theorem kv_L_108 : KV RL 108 RX12 yX12_takes cX12_takes 4 (some .int) 2 := ⟨(in_r33 (List.mem_of_getElem? (i := 22) rfl)), (in_r33 (List.mem_of_getElem? (i := 23) rfl)), (in_r34 (List.mem_of_getElem? (i := 0) rfl)), (in_r1 (List.mem_of_getElem? (i := 5) rfl)), (in_r34 (List.mem_of_getElem? (i := 1) rfl)), by decide +kernel⟩
theorem kv_L_109 : KV RL 109 RX11 yX11_ledger cX11_ledger 3 (some .int) 2 := ⟨(in_r34 (List.mem_of_getElem? (i := 2) rfl)), (in_r34 (List.mem_of_getElem? (i := 3) rfl)), (in_r34 (List.mem_of_getElem? (i := 4) rfl)), (in_r1 (List.mem_of_getElem? (i := 2) rfl)), (in_r34 (List.mem_of_getElem? (i := 5) rfl)), by decide +kernel⟩
theorem kv_L_112 : KV RL 112 RX12 yX12_ledger cX12_ledger 3 (some .int) 2 := ⟨(in_r34 (List.mem_of_getElem? (i := 6) rfl)), (in_r34 (List.mem_of_getElem? (i := 7) rfl)), (in_r34 (List.mem_of_getElem? (i := 8) rfl)), (in_r1 (List.mem_of_getElem? (i := 5) rfl)), (in_r34 (List.mem_of_getElem? (i := 9) rfl)), by decide +kernel⟩
theorem kv_L_113 : KV RL 113 RX11 yX11_count cX11_count 2 (some .int) 1 := ⟨(in_r34 (List.mem_of_getElem? (i := 10) rfl)), (in_r34 (List.mem_of_getElem? (i := 11) rfl)), (in_r34 (List.mem_of_getElem? (i := 12) rfl)), (in_r1 (List.mem_of_getElem? (i := 2) rfl)), (in_r34 (List.mem_of_getElem? (i := 13) rfl)), by decide +kernel⟩
theorem kv_L_116 : KV RL 116 RX12 yX12_count cX12_count 2 (some .int) 1 := ⟨(in_r34 (List.mem_of_getElem? (i := 14) rfl)), (in_r34 (List.mem_of_getElem? (i := 15) rfl)), (in_r34 (List.mem_of_getElem? (i := 16) rfl)), (in_r1 (List.mem_of_getElem? (i := 5) rfl)), (in_r34 (List.mem_of_getElem? (i := 17) rfl)), by decide +kernel⟩
theorem kv_X1_22 : KV RX1 22 RX1 yX1_start cX1_start 4 none 1 := ⟨(in_r20 (List.mem_of_getElem? (i := 23) rfl)), (in_r21 (List.mem_of_getElem? (i := 0) rfl)), (in_r21 (List.mem_of_getElem? (i := 1) rfl)), (in_r2 (List.mem_of_getElem? (i := 10) rfl)), (in_r21 (List.mem_of_getElem? (i := 2) rfl)), by decide +kernel⟩
theorem kn_X1_31 : KN RX1 31 RX11 yX11_isFrom cX11_isFrom 3 (some .boolean) 3 := ⟨List.mem_of_getElem? (i := 14) rfl, (in_r9 (List.mem_of_getElem? (i := 23) rfl)), (in_r1 (List.mem_of_getElem? (i := 2) rfl)), (in_r10 (List.mem_of_getElem? (i := 0) rfl)), by decide +kernel⟩
theorem ks_X1_41 : KS RX1 41 yX1_indexOf cX1_indexOf 2 (some .int) 2 := ⟨(in_r21 (List.mem_of_getElem? (i := 4) rfl)), (in_r21 (List.mem_of_getElem? (i := 5) rfl)), (in_r2 (List.mem_of_getElem? (i := 10) rfl)), (in_r21 (List.mem_of_getElem? (i := 6) rfl)), by decide +kernel⟩
theorem kv_X1_45 : KV RX1 45 RX1 yX1_stepTo cX1_stepTo 8 none 4 := ⟨(in_r21 (List.mem_of_getElem? (i := 7) rfl)), (in_r21 (List.mem_of_getElem? (i := 8) rfl)), (in_r21 (List.mem_of_getElem? (i := 9) rfl)), (in_r2 (List.mem_of_getElem? (i := 10) rfl)), (in_r21 (List.mem_of_getElem? (i := 10) rfl)), by decide +kernel⟩
theorem kv_X1_54 : KV RX1 54 RX7 yX7_edgeAt cX7_edgeAt 3 (some .int) 2 := ⟨(in_r21 (List.mem_of_getElem? (i := 3) rfl)), (in_r16 (List.mem_of_getElem? (i := 13) rfl)), (in_r16 (List.mem_of_getElem? (i := 14) rfl)), (in_r1 (List.mem_of_getElem? (i := 22) rfl)), (in_r16 (List.mem_of_getElem? (i := 15) rfl)), by decide +kernel⟩
theorem kv_X10_15 : KV RX10 15 RX7 yX7_edgeAt cX7_edgeAt 3 (some .int) 2 := ⟨(in_r28 (List.mem_of_getElem? (i := 2) rfl)), (in_r16 (List.mem_of_getElem? (i := 13) rfl)), (in_r16 (List.mem_of_getElem? (i := 14) rfl)), (in_r1 (List.mem_of_getElem? (i := 22) rfl)), (in_r16 (List.mem_of_getElem? (i := 15) rfl)), by decide +kernel⟩
theorem ks_X10_21 : KS RX10 21 yX10_isNear cX10_isNear 6 (some .boolean) 5 := ⟨(in_r28 (List.mem_of_getElem? (i := 3) rfl)), (in_r28 (List.mem_of_getElem? (i := 4) rfl)), (in_r3 (List.mem_of_getElem? (i := 2) rfl)), (in_r28 (List.mem_of_getElem? (i := 5) rfl)), by decide +kernel⟩
theorem kv_X10_37 : KV RX10 37 RX7 yX7_apart cX7_apart 6 (some .int) 2 := ⟨(in_r28 (List.mem_of_getElem? (i := 6) rfl)), (in_r22 (List.mem_of_getElem? (i := 14) rfl)), (in_r22 (List.mem_of_getElem? (i := 15) rfl)), (in_r1 (List.mem_of_getElem? (i := 22) rfl)), (in_r22 (List.mem_of_getElem? (i := 16) rfl)), by decide +kernel⟩
theorem kv_X11_98 : KV RX11 98 RJ0 yJ0_length_8abf5 cJ0_length_8abf5 1 (some .int) 0 := ⟨(in_r6 (List.mem_of_getElem? (i := 19) rfl)), (in_r6 (List.mem_of_getElem? (i := 20) rfl)), (in_r6 (List.mem_of_getElem? (i := 21) rfl)), (in_r6 (List.mem_of_getElem? (i := 22) rfl)), (in_r6 (List.mem_of_getElem? (i := 23) rfl)), by decide +kernel⟩
theorem kv_X11_104 : KV RX11 104 RJ0 yJ0_charAt_5068e cJ0_charAt_5068e 2 (some .char) 1 := ⟨(in_r7 (List.mem_of_getElem? (i := 7) rfl)), (in_r7 (List.mem_of_getElem? (i := 8) rfl)), (in_r7 (List.mem_of_getElem? (i := 9) rfl)), (in_r6 (List.mem_of_getElem? (i := 22) rfl)), (in_r7 (List.mem_of_getElem? (i := 10) rfl)), by decide +kernel⟩
theorem kv_X11_108 : KV RX11 108 RX8 yX8_append cX8_append 2 (some .boolean) 1 := ⟨(in_r8 (List.mem_of_getElem? (i := 20) rfl)), (in_r8 (List.mem_of_getElem? (i := 21) rfl)), (in_r8 (List.mem_of_getElem? (i := 22) rfl)), (in_r1 (List.mem_of_getElem? (i := 14) rfl)), (in_r8 (List.mem_of_getElem? (i := 23) rfl)), by decide +kernel⟩
theorem kv_X11_112 : KV RX11 112 RX6 yX6_readAll cX6_readAll 5 (some .int) 1 := ⟨(in_r9 (List.mem_of_getElem? (i := 0) rfl)), (in_r9 (List.mem_of_getElem? (i := 1) rfl)), (in_r9 (List.mem_of_getElem? (i := 2) rfl)), (in_r1 (List.mem_of_getElem? (i := 18) rfl)), (in_r9 (List.mem_of_getElem? (i := 3) rfl)), by decide +kernel⟩
theorem kv_X11_117 : KV RX11 117 RX7 yX7_copyFrom cX7_copyFrom 3 none 1 := ⟨(in_r10 (List.mem_of_getElem? (i := 21) rfl)), (in_r10 (List.mem_of_getElem? (i := 22) rfl)), (in_r10 (List.mem_of_getElem? (i := 23) rfl)), (in_r1 (List.mem_of_getElem? (i := 22) rfl)), (in_r11 (List.mem_of_getElem? (i := 0) rfl)), by decide +kernel⟩
theorem kv_X11_133 : KV RX11 133 RX11 yX11_lookAt cX11_lookAt 4 none 3 := ⟨(in_r14 (List.mem_of_getElem? (i := 21) rfl)), (in_r14 (List.mem_of_getElem? (i := 22) rfl)), (in_r14 (List.mem_of_getElem? (i := 23) rfl)), (in_r1 (List.mem_of_getElem? (i := 2) rfl)), (in_r15 (List.mem_of_getElem? (i := 0) rfl)), by decide +kernel⟩
theorem kv_X11_137 : KV RX11 137 RX11 yX11_makeStale cX11_makeStale 1 none 0 := ⟨(in_r15 (List.mem_of_getElem? (i := 1) rfl)), (in_r15 (List.mem_of_getElem? (i := 2) rfl)), (in_r15 (List.mem_of_getElem? (i := 3) rfl)), (in_r1 (List.mem_of_getElem? (i := 2) rfl)), (in_r15 (List.mem_of_getElem? (i := 4) rfl)), by decide +kernel⟩
theorem kv_X11_140 : KV RX11 140 RX7 yX7_edges cX7_edges 3 (some .int) 0 := ⟨(in_r15 (List.mem_of_getElem? (i := 5) rfl)), (in_r15 (List.mem_of_getElem? (i := 6) rfl)), (in_r15 (List.mem_of_getElem? (i := 7) rfl)), (in_r1 (List.mem_of_getElem? (i := 22) rfl)), (in_r15 (List.mem_of_getElem? (i := 8) rfl)), by decide +kernel⟩
theorem kv_X11_143 : KV RX11 143 RX7 yX7_has cX7_has 3 (some .boolean) 2 := ⟨(in_r16 (List.mem_of_getElem? (i := 7) rfl)), (in_r16 (List.mem_of_getElem? (i := 8) rfl)), (in_r16 (List.mem_of_getElem? (i := 9) rfl)), (in_r1 (List.mem_of_getElem? (i := 22) rfl)), (in_r16 (List.mem_of_getElem? (i := 10) rfl)), by decide +kernel⟩
theorem ks_X11_147 : KS RX11 147 yX11_isFrom cX11_isFrom 3 (some .boolean) 3 := ⟨(in_r16 (List.mem_of_getElem? (i := 11) rfl)), (in_r9 (List.mem_of_getElem? (i := 23) rfl)), (in_r1 (List.mem_of_getElem? (i := 2) rfl)), (in_r10 (List.mem_of_getElem? (i := 0) rfl)), by decide +kernel⟩
theorem kv_X11_151 : KV RX11 151 RX7 yX7_edgeAt cX7_edgeAt 3 (some .int) 2 := ⟨(in_r16 (List.mem_of_getElem? (i := 12) rfl)), (in_r16 (List.mem_of_getElem? (i := 13) rfl)), (in_r16 (List.mem_of_getElem? (i := 14) rfl)), (in_r1 (List.mem_of_getElem? (i := 22) rfl)), (in_r16 (List.mem_of_getElem? (i := 15) rfl)), by decide +kernel⟩
theorem kv_X11_155 : KV RX11 155 RX11 yX11_startChange cX11_startChange 1 none 0 := ⟨(in_r16 (List.mem_of_getElem? (i := 17) rfl)), (in_r16 (List.mem_of_getElem? (i := 18) rfl)), (in_r16 (List.mem_of_getElem? (i := 19) rfl)), (in_r1 (List.mem_of_getElem? (i := 2) rfl)), (in_r16 (List.mem_of_getElem? (i := 20) rfl)), by decide +kernel⟩
theorem kv_X11_158 : KV RX11 158 RX7 yX7_flipEdge cX7_flipEdge 3 none 2 := ⟨(in_r17 (List.mem_of_getElem? (i := 6) rfl)), (in_r17 (List.mem_of_getElem? (i := 7) rfl)), (in_r17 (List.mem_of_getElem? (i := 8) rfl)), (in_r1 (List.mem_of_getElem? (i := 22) rfl)), (in_r17 (List.mem_of_getElem? (i := 9) rfl)), by decide +kernel⟩
theorem kv_X11_162 : KV RX11 162 RX7 yX7_hasDot cX7_hasDot 4 (some .boolean) 2 := ⟨(in_r18 (List.mem_of_getElem? (i := 3) rfl)), (in_r10 (List.mem_of_getElem? (i := 10) rfl)), (in_r10 (List.mem_of_getElem? (i := 11) rfl)), (in_r1 (List.mem_of_getElem? (i := 22) rfl)), (in_r10 (List.mem_of_getElem? (i := 12) rfl)), by decide +kernel⟩
theorem kv_X11_165 : KV RX11 165 RX7 yX7_addDot cX7_addDot 3 none 2 := ⟨(in_r18 (List.mem_of_getElem? (i := 4) rfl)), (in_r10 (List.mem_of_getElem? (i := 14) rfl)), (in_r10 (List.mem_of_getElem? (i := 15) rfl)), (in_r1 (List.mem_of_getElem? (i := 22) rfl)), (in_r10 (List.mem_of_getElem? (i := 16) rfl)), by decide +kernel⟩
theorem kv_X11_168 : KV RX11 168 RX11 yX11_isDot cX11_isDot 2 (some .boolean) 1 := ⟨(in_r18 (List.mem_of_getElem? (i := 13) rfl)), (in_r18 (List.mem_of_getElem? (i := 14) rfl)), (in_r18 (List.mem_of_getElem? (i := 15) rfl)), (in_r1 (List.mem_of_getElem? (i := 2) rfl)), (in_r18 (List.mem_of_getElem? (i := 16) rfl)), by decide +kernel⟩
theorem kv_X11_172 : KV RX11 172 RX7 yX7_removeDot cX7_removeDot 3 none 1 := ⟨(in_r18 (List.mem_of_getElem? (i := 17) rfl)), (in_r18 (List.mem_of_getElem? (i := 18) rfl)), (in_r18 (List.mem_of_getElem? (i := 19) rfl)), (in_r1 (List.mem_of_getElem? (i := 22) rfl)), (in_r18 (List.mem_of_getElem? (i := 20) rfl)), by decide +kernel⟩
theorem kv_X11_182 : KV RX11 182 RX3 yX3_restoreLatest cX3_restoreLatest 3 none 2 := ⟨(in_r19 (List.mem_of_getElem? (i := 17) rfl)), (in_r19 (List.mem_of_getElem? (i := 18) rfl)), (in_r19 (List.mem_of_getElem? (i := 19) rfl)), (in_r2 (List.mem_of_getElem? (i := 2) rfl)), (in_r19 (List.mem_of_getElem? (i := 20) rfl)), by decide +kernel⟩
theorem kv_X11_186 : KV RX11 186 RX11 yX11_freshField cX11_freshField 1 (some (.object "EdgeStencil$Field")) 0 := ⟨(in_r20 (List.mem_of_getElem? (i := 13) rfl)), (in_r20 (List.mem_of_getElem? (i := 14) rfl)), (in_r20 (List.mem_of_getElem? (i := 15) rfl)), (in_r1 (List.mem_of_getElem? (i := 2) rfl)), (in_r20 (List.mem_of_getElem? (i := 16) rfl)), by decide +kernel⟩
theorem kv_X11_190 : KV RX11 190 RX1 yX1_at cX1_at 3 (some .int) 2 := ⟨(in_r21 (List.mem_of_getElem? (i := 12) rfl)), (in_r21 (List.mem_of_getElem? (i := 13) rfl)), (in_r21 (List.mem_of_getElem? (i := 14) rfl)), (in_r2 (List.mem_of_getElem? (i := 10) rfl)), (in_r21 (List.mem_of_getElem? (i := 15) rfl)), by decide +kernel⟩
theorem kv_X11_202 : KV RX11 202 RX7 yX7_apart cX7_apart 6 (some .int) 2 := ⟨(in_r22 (List.mem_of_getElem? (i := 13) rfl)), (in_r22 (List.mem_of_getElem? (i := 14) rfl)), (in_r22 (List.mem_of_getElem? (i := 15) rfl)), (in_r1 (List.mem_of_getElem? (i := 22) rfl)), (in_r22 (List.mem_of_getElem? (i := 16) rfl)), by decide +kernel⟩
theorem kv_X11_205 : KV RX11 205 RX1 yX1_cellsSoFar cX1_cellsSoFar 5 (some .int) 1 := ⟨(in_r23 (List.mem_of_getElem? (i := 8) rfl)), (in_r23 (List.mem_of_getElem? (i := 9) rfl)), (in_r23 (List.mem_of_getElem? (i := 10) rfl)), (in_r2 (List.mem_of_getElem? (i := 10) rfl)), (in_r23 (List.mem_of_getElem? (i := 11) rfl)), by decide +kernel⟩
theorem kv_X11_209 : KV RX11 209 RX11 yX11_lookedAt cX11_lookedAt 1 (some (.object "EdgeStencil$Shape")) 0 := ⟨(in_r24 (List.mem_of_getElem? (i := 4) rfl)), (in_r24 (List.mem_of_getElem? (i := 5) rfl)), (in_r24 (List.mem_of_getElem? (i := 6) rfl)), (in_r1 (List.mem_of_getElem? (i := 2) rfl)), (in_r24 (List.mem_of_getElem? (i := 7) rfl)), by decide +kernel⟩
theorem kv_X11_220 : KV RX11 220 RX2 yX2_weigh cX2_weigh 7 (some .boolean) 4 := ⟨(in_r25 (List.mem_of_getElem? (i := 17) rfl)), (in_r25 (List.mem_of_getElem? (i := 18) rfl)), (in_r25 (List.mem_of_getElem? (i := 19) rfl)), (in_r2 (List.mem_of_getElem? (i := 22) rfl)), (in_r25 (List.mem_of_getElem? (i := 20) rfl)), by decide +kernel⟩
theorem kv_X11_236 : KV RX11 236 RX9 yX9_isInside cX9_isInside 5 (some .boolean) 4 := ⟨(in_r26 (List.mem_of_getElem? (i := 22) rfl)), (in_r25 (List.mem_of_getElem? (i := 22) rfl)), (in_r25 (List.mem_of_getElem? (i := 23) rfl)), (in_r2 (List.mem_of_getElem? (i := 18) rfl)), (in_r26 (List.mem_of_getElem? (i := 0) rfl)), by decide +kernel⟩
theorem kv_X11_246 : KV RX11 246 RX1 yX1_leastIn cX1_leastIn 9 (some .int) 4 := ⟨(in_r27 (List.mem_of_getElem? (i := 8) rfl)), (in_r27 (List.mem_of_getElem? (i := 9) rfl)), (in_r27 (List.mem_of_getElem? (i := 10) rfl)), (in_r2 (List.mem_of_getElem? (i := 10) rfl)), (in_r27 (List.mem_of_getElem? (i := 11) rfl)), by decide +kernel⟩
theorem kv_X11_250 : KV RX11 250 RX10 yX10_seek cX10_seek 9 (some .int) 5 := ⟨(in_r27 (List.mem_of_getElem? (i := 22) rfl)), (in_r27 (List.mem_of_getElem? (i := 23) rfl)), (in_r28 (List.mem_of_getElem? (i := 0) rfl)), (in_r3 (List.mem_of_getElem? (i := 2) rfl)), (in_r28 (List.mem_of_getElem? (i := 1) rfl)), by decide +kernel⟩
theorem kv_X11_254 : KV RX11 254 RX11 yX11_freshRanking cX11_freshRanking 1 (some (.object "EdgeStencil$Ranking")) 0 := ⟨(in_r28 (List.mem_of_getElem? (i := 23) rfl)), (in_r29 (List.mem_of_getElem? (i := 0) rfl)), (in_r29 (List.mem_of_getElem? (i := 1) rfl)), (in_r1 (List.mem_of_getElem? (i := 2) rfl)), (in_r29 (List.mem_of_getElem? (i := 2) rfl)), by decide +kernel⟩
theorem ks_X11_264 : KS RX11 264 yX11_partOf cX11_partOf 4 (some .int) 4 := ⟨(in_r30 (List.mem_of_getElem? (i := 4) rfl)), (in_r30 (List.mem_of_getElem? (i := 5) rfl)), (in_r1 (List.mem_of_getElem? (i := 2) rfl)), (in_r30 (List.mem_of_getElem? (i := 6) rfl)), by decide +kernel⟩
theorem kv_X11_268 : KV RX11 268 RX5 yX5_chooseApart cX5_chooseApart 4 none 1 := ⟨(in_r31 (List.mem_of_getElem? (i := 21) rfl)), (in_r31 (List.mem_of_getElem? (i := 22) rfl)), (in_r31 (List.mem_of_getElem? (i := 23) rfl)), (in_r2 (List.mem_of_getElem? (i := 14) rfl)), (in_r32 (List.mem_of_getElem? (i := 0) rfl)), by decide +kernel⟩
theorem kv_X11_277 : KV RX11 277 RX11 yX11_takeFirst cX11_takeFirst 6 (some .int) 2 := ⟨(in_r32 (List.mem_of_getElem? (i := 19) rfl)), (in_r32 (List.mem_of_getElem? (i := 20) rfl)), (in_r32 (List.mem_of_getElem? (i := 21) rfl)), (in_r1 (List.mem_of_getElem? (i := 2) rfl)), (in_r32 (List.mem_of_getElem? (i := 22) rfl)), by decide +kernel⟩
theorem kv_X11_286 : KV RX11 286 RX9 yX9_form cX9_form 10 none 4 := ⟨(in_r24 (List.mem_of_getElem? (i := 8) rfl)), (in_r24 (List.mem_of_getElem? (i := 9) rfl)), (in_r24 (List.mem_of_getElem? (i := 10) rfl)), (in_r2 (List.mem_of_getElem? (i := 18) rfl)), (in_r24 (List.mem_of_getElem? (i := 11) rfl)), by decide +kernel⟩
theorem kv_X11_290 : KV RX11 290 RX3 yX3_keep cX3_keep 3 none 2 := ⟨(in_r16 (List.mem_of_getElem? (i := 21) rfl)), (in_r16 (List.mem_of_getElem? (i := 22) rfl)), (in_r16 (List.mem_of_getElem? (i := 23) rfl)), (in_r2 (List.mem_of_getElem? (i := 2) rfl)), (in_r17 (List.mem_of_getElem? (i := 0) rfl)), by decide +kernel⟩
theorem kv_X11_294 : KV RX11 294 RX1 yX1_workOut cX1_workOut 7 none 1 := ⟨(in_r20 (List.mem_of_getElem? (i := 17) rfl)), (in_r20 (List.mem_of_getElem? (i := 18) rfl)), (in_r20 (List.mem_of_getElem? (i := 19) rfl)), (in_r2 (List.mem_of_getElem? (i := 10) rfl)), (in_r20 (List.mem_of_getElem? (i := 20) rfl)), by decide +kernel⟩
theorem kv_X11_297 : KV RX11 297 RX5 yX5_seek cX5_seek 7 none 2 := ⟨(in_r29 (List.mem_of_getElem? (i := 3) rfl)), (in_r29 (List.mem_of_getElem? (i := 4) rfl)), (in_r29 (List.mem_of_getElem? (i := 5) rfl)), (in_r2 (List.mem_of_getElem? (i := 14) rfl)), (in_r29 (List.mem_of_getElem? (i := 6) rfl)), by decide +kernel⟩
theorem ks_X11_300 : KS RX11 300 yX4_part cX4_part 5 (some .int) 2 := ⟨(in_r30 (List.mem_of_getElem? (i := 7) rfl)), (in_r30 (List.mem_of_getElem? (i := 8) rfl)), (in_r29 (List.mem_of_getElem? (i := 10) rfl)), (in_r30 (List.mem_of_getElem? (i := 9) rfl)), by decide +kernel⟩
theorem kv_X11_308 : KV RX11 308 RX7 yX7_clearEdges cX7_clearEdges 3 none 1 := ⟨(in_r32 (List.mem_of_getElem? (i := 23) rfl)), (in_r33 (List.mem_of_getElem? (i := 0) rfl)), (in_r33 (List.mem_of_getElem? (i := 1) rfl)), (in_r1 (List.mem_of_getElem? (i := 22) rfl)), (in_r33 (List.mem_of_getElem? (i := 2) rfl)), by decide +kernel⟩
theorem kv_X11_312 : KV RX11 312 RX0 yX0_add cX0_add 3 none 2 := ⟨(in_r33 (List.mem_of_getElem? (i := 3) rfl)), (in_r33 (List.mem_of_getElem? (i := 4) rfl)), (in_r33 (List.mem_of_getElem? (i := 5) rfl)), (in_r2 (List.mem_of_getElem? (i := 6) rfl)), (in_r33 (List.mem_of_getElem? (i := 6) rfl)), by decide +kernel⟩
theorem ks_X12_50 : KS RX12 50 yX12_at cX12_at 2 (some .int) 2 := ⟨(in_r11 (List.mem_of_getElem? (i := 18) rfl)), (in_r11 (List.mem_of_getElem? (i := 19) rfl)), (in_r1 (List.mem_of_getElem? (i := 5) rfl)), (in_r11 (List.mem_of_getElem? (i := 20) rfl)), by decide +kernel⟩
theorem ks_X12_54 : KS RX12 54 yX12_comesDot cX12_comesDot 3 none 3 := ⟨(in_r11 (List.mem_of_getElem? (i := 21) rfl)), (in_r11 (List.mem_of_getElem? (i := 22) rfl)), (in_r1 (List.mem_of_getElem? (i := 5) rfl)), (in_r11 (List.mem_of_getElem? (i := 23) rfl)), by decide +kernel⟩
theorem ks_X12_58 : KS RX12 58 yX12_in cX12_in 3 (some .boolean) 3 := ⟨(in_r12 (List.mem_of_getElem? (i := 9) rfl)), (in_r12 (List.mem_of_getElem? (i := 10) rfl)), (in_r1 (List.mem_of_getElem? (i := 5) rfl)), (in_r12 (List.mem_of_getElem? (i := 11) rfl)), by decide +kernel⟩
theorem kv_X12_65 : KV RX12 65 RX12 yX12_letter cX12_letter 2 (some .int) 1 := ⟨(in_r13 (List.mem_of_getElem? (i := 14) rfl)), (in_r13 (List.mem_of_getElem? (i := 15) rfl)), (in_r13 (List.mem_of_getElem? (i := 16) rfl)), (in_r1 (List.mem_of_getElem? (i := 5) rfl)), (in_r13 (List.mem_of_getElem? (i := 17) rfl)), by decide +kernel⟩
theorem ks_X12_69 : KS RX12 69 yX12_signOf cX12_signOf 1 (some .int) 1 := ⟨(in_r13 (List.mem_of_getElem? (i := 23) rfl)), (in_r14 (List.mem_of_getElem? (i := 0) rfl)), (in_r1 (List.mem_of_getElem? (i := 5) rfl)), (in_r14 (List.mem_of_getElem? (i := 1) rfl)), by decide +kernel⟩
theorem ks_X12_81 : KS RX12 81 yX12_dotAt cX12_dotAt 4 (some .int) 3 := ⟨(in_r14 (List.mem_of_getElem? (i := 10) rfl)), (in_r14 (List.mem_of_getElem? (i := 11) rfl)), (in_r1 (List.mem_of_getElem? (i := 5) rfl)), (in_r14 (List.mem_of_getElem? (i := 12) rfl)), by decide +kernel⟩
theorem kv_X12_85 : KV RX12 85 RX12 yX12_readsGrid cX12_readsGrid 2 (some .boolean) 1 := ⟨(in_r13 (List.mem_of_getElem? (i := 18) rfl)), (in_r13 (List.mem_of_getElem? (i := 19) rfl)), (in_r13 (List.mem_of_getElem? (i := 20) rfl)), (in_r1 (List.mem_of_getElem? (i := 5) rfl)), (in_r13 (List.mem_of_getElem? (i := 21) rfl)), by decide +kernel⟩
theorem kv_X12_89 : KV RX12 89 RX12 yX12_readsRow cX12_readsRow 4 (some .boolean) 1 := ⟨(in_r14 (List.mem_of_getElem? (i := 2) rfl)), (in_r14 (List.mem_of_getElem? (i := 3) rfl)), (in_r14 (List.mem_of_getElem? (i := 4) rfl)), (in_r1 (List.mem_of_getElem? (i := 5) rfl)), (in_r14 (List.mem_of_getElem? (i := 5) rfl)), by decide +kernel⟩
theorem kv_X12_92 : KV RX12 92 RX12 yX12_readsDot cX12_readsDot 4 (some .boolean) 1 := ⟨(in_r14 (List.mem_of_getElem? (i := 6) rfl)), (in_r14 (List.mem_of_getElem? (i := 7) rfl)), (in_r14 (List.mem_of_getElem? (i := 8) rfl)), (in_r1 (List.mem_of_getElem? (i := 5) rfl)), (in_r14 (List.mem_of_getElem? (i := 9) rfl)), by decide +kernel⟩
theorem kv_X12_95 : KV RX12 95 RX12 yX12_readsMeasure cX12_readsMeasure 6 (some .boolean) 1 := ⟨(in_r14 (List.mem_of_getElem? (i := 13) rfl)), (in_r14 (List.mem_of_getElem? (i := 14) rfl)), (in_r14 (List.mem_of_getElem? (i := 15) rfl)), (in_r1 (List.mem_of_getElem? (i := 5) rfl)), (in_r14 (List.mem_of_getElem? (i := 16) rfl)), by decide +kernel⟩
theorem kv_X12_98 : KV RX12 98 RX12 yX12_readsItem cX12_readsItem 3 (some .int) 1 := ⟨(in_r13 (List.mem_of_getElem? (i := 9) rfl)), (in_r13 (List.mem_of_getElem? (i := 10) rfl)), (in_r13 (List.mem_of_getElem? (i := 11) rfl)), (in_r1 (List.mem_of_getElem? (i := 5) rfl)), (in_r13 (List.mem_of_getElem? (i := 12) rfl)), by decide +kernel⟩
theorem kv_X12_101 : KV RX12 101 RX12 yX12_reads cX12_reads 3 (some .int) 0 := ⟨(in_r13 (List.mem_of_getElem? (i := 4) rfl)), (in_r13 (List.mem_of_getElem? (i := 5) rfl)), (in_r13 (List.mem_of_getElem? (i := 6) rfl)), (in_r1 (List.mem_of_getElem? (i := 5) rfl)), (in_r13 (List.mem_of_getElem? (i := 7) rfl)), by decide +kernel⟩
theorem kv_X12_114 : KV RX12 114 RX12 yX12_edges cX12_edges 3 (some .int) 0 := ⟨(in_r15 (List.mem_of_getElem? (i := 23) rfl)), (in_r16 (List.mem_of_getElem? (i := 0) rfl)), (in_r16 (List.mem_of_getElem? (i := 1) rfl)), (in_r1 (List.mem_of_getElem? (i := 5) rfl)), (in_r16 (List.mem_of_getElem? (i := 2) rfl)), by decide +kernel⟩
theorem kv_X12_120 : KV RX12 120 RX12 yX12_isCell cX12_isCell 3 (some .boolean) 2 := ⟨(in_r17 (List.mem_of_getElem? (i := 14) rfl)), (in_r17 (List.mem_of_getElem? (i := 15) rfl)), (in_r17 (List.mem_of_getElem? (i := 16) rfl)), (in_r1 (List.mem_of_getElem? (i := 5) rfl)), (in_r17 (List.mem_of_getElem? (i := 17) rfl)), by decide +kernel⟩
theorem kv_X12_124 : KV RX12 124 RX12 yX12_remembers cX12_remembers 2 none 0 := ⟨(in_r17 (List.mem_of_getElem? (i := 18) rfl)), (in_r17 (List.mem_of_getElem? (i := 19) rfl)), (in_r17 (List.mem_of_getElem? (i := 20) rfl)), (in_r1 (List.mem_of_getElem? (i := 5) rfl)), (in_r17 (List.mem_of_getElem? (i := 21) rfl)), by decide +kernel⟩
theorem kv_X12_127 : KV RX12 127 RX12 yX12_isDot cX12_isDot 2 (some .boolean) 1 := ⟨(in_r19 (List.mem_of_getElem? (i := 1) rfl)), (in_r19 (List.mem_of_getElem? (i := 2) rfl)), (in_r19 (List.mem_of_getElem? (i := 3) rfl)), (in_r1 (List.mem_of_getElem? (i := 5) rfl)), (in_r19 (List.mem_of_getElem? (i := 4) rfl)), by decide +kernel⟩
theorem kv_X12_130 : KV RX12 130 RX12 yX12_apart cX12_apart 8 (some .int) 4 := ⟨(in_r22 (List.mem_of_getElem? (i := 4) rfl)), (in_r22 (List.mem_of_getElem? (i := 5) rfl)), (in_r22 (List.mem_of_getElem? (i := 6) rfl)), (in_r1 (List.mem_of_getElem? (i := 5) rfl)), (in_r22 (List.mem_of_getElem? (i := 7) rfl)), by decide +kernel⟩
theorem kv_X12_134 : KV RX12 134 RX12 yX12_nearestOf cX12_nearestOf 7 (some .int) 2 := ⟨(in_r22 (List.mem_of_getElem? (i := 0) rfl)), (in_r22 (List.mem_of_getElem? (i := 1) rfl)), (in_r22 (List.mem_of_getElem? (i := 2) rfl)), (in_r1 (List.mem_of_getElem? (i := 5) rfl)), (in_r22 (List.mem_of_getElem? (i := 3) rfl)), by decide +kernel⟩
theorem kv_X12_137 : KV RX12 137 RX12 yX12_farOf cX12_farOf 5 (some .int) 2 := ⟨(in_r21 (List.mem_of_getElem? (i := 20) rfl)), (in_r21 (List.mem_of_getElem? (i := 21) rfl)), (in_r21 (List.mem_of_getElem? (i := 22) rfl)), (in_r1 (List.mem_of_getElem? (i := 5) rfl)), (in_r21 (List.mem_of_getElem? (i := 23) rfl)), by decide +kernel⟩
theorem ks_X12_140 : KS RX12 140 yX12_halved cX12_halved 2 (some .int) 2 := ⟨(in_r25 (List.mem_of_getElem? (i := 6) rfl)), (in_r25 (List.mem_of_getElem? (i := 7) rfl)), (in_r1 (List.mem_of_getElem? (i := 5) rfl)), (in_r25 (List.mem_of_getElem? (i := 8) rfl)), by decide +kernel⟩
theorem kv_X12_143 : KV RX12 143 RX12 yX12_liesX cX12_liesX 7 (some .int) 4 := ⟨(in_r25 (List.mem_of_getElem? (i := 2) rfl)), (in_r25 (List.mem_of_getElem? (i := 3) rfl)), (in_r25 (List.mem_of_getElem? (i := 4) rfl)), (in_r1 (List.mem_of_getElem? (i := 5) rfl)), (in_r25 (List.mem_of_getElem? (i := 5) rfl)), by decide +kernel⟩
theorem kv_X12_146 : KV RX12 146 RX12 yX12_liesY cX12_liesY 7 (some .int) 4 := ⟨(in_r25 (List.mem_of_getElem? (i := 9) rfl)), (in_r25 (List.mem_of_getElem? (i := 10) rfl)), (in_r25 (List.mem_of_getElem? (i := 11) rfl)), (in_r1 (List.mem_of_getElem? (i := 5) rfl)), (in_r25 (List.mem_of_getElem? (i := 12) rfl)), by decide +kernel⟩
theorem kv_X12_161 : KV RX12 161 RX12 yX12_laysFars cX12_laysFars 3 none 0 := ⟨(in_r26 (List.mem_of_getElem? (i := 10) rfl)), (in_r26 (List.mem_of_getElem? (i := 11) rfl)), (in_r26 (List.mem_of_getElem? (i := 12) rfl)), (in_r1 (List.mem_of_getElem? (i := 5) rfl)), (in_r26 (List.mem_of_getElem? (i := 13) rfl)), by decide +kernel⟩
theorem kv_X12_164 : KV RX12 164 RX12 yX12_looks cX12_looks 10 (some .boolean) 5 := ⟨(in_r26 (List.mem_of_getElem? (i := 14) rfl)), (in_r26 (List.mem_of_getElem? (i := 15) rfl)), (in_r26 (List.mem_of_getElem? (i := 16) rfl)), (in_r1 (List.mem_of_getElem? (i := 5) rfl)), (in_r26 (List.mem_of_getElem? (i := 17) rfl)), by decide +kernel⟩
theorem kv_X12_169 : KV RX12 169 RX12 yX12_isTold cX12_isTold 10 (some .boolean) 7 := ⟨(in_r28 (List.mem_of_getElem? (i := 15) rfl)), (in_r28 (List.mem_of_getElem? (i := 16) rfl)), (in_r28 (List.mem_of_getElem? (i := 17) rfl)), (in_r1 (List.mem_of_getElem? (i := 5) rfl)), (in_r28 (List.mem_of_getElem? (i := 18) rfl)), by decide +kernel⟩
theorem kv_X12_173 : KV RX12 173 RX12 yX12_toldMany cX12_toldMany 9 (some .int) 6 := ⟨(in_r28 (List.mem_of_getElem? (i := 11) rfl)), (in_r28 (List.mem_of_getElem? (i := 12) rfl)), (in_r28 (List.mem_of_getElem? (i := 13) rfl)), (in_r1 (List.mem_of_getElem? (i := 5) rfl)), (in_r28 (List.mem_of_getElem? (i := 14) rfl)), by decide +kernel⟩
theorem ks_X12_183 : KS RX12 183 yX12_placeOf cX12_placeOf 1 (some .int) 1 := ⟨(in_r31 (List.mem_of_getElem? (i := 11) rfl)), (in_r31 (List.mem_of_getElem? (i := 12) rfl)), (in_r1 (List.mem_of_getElem? (i := 5) rfl)), (in_r31 (List.mem_of_getElem? (i := 13) rfl)), by decide +kernel⟩
theorem kv_X12_186 : KV RX12 186 RX12 yX12_laysRanks cX12_laysRanks 6 none 0 := ⟨(in_r31 (List.mem_of_getElem? (i := 3) rfl)), (in_r31 (List.mem_of_getElem? (i := 4) rfl)), (in_r31 (List.mem_of_getElem? (i := 5) rfl)), (in_r1 (List.mem_of_getElem? (i := 5) rfl)), (in_r31 (List.mem_of_getElem? (i := 6) rfl)), by decide +kernel⟩
theorem kv_X12_189 : KV RX12 189 RX12 yX12_isApart cX12_isApart 7 (some .boolean) 2 := ⟨(in_r31 (List.mem_of_getElem? (i := 7) rfl)), (in_r31 (List.mem_of_getElem? (i := 8) rfl)), (in_r31 (List.mem_of_getElem? (i := 9) rfl)), (in_r1 (List.mem_of_getElem? (i := 5) rfl)), (in_r31 (List.mem_of_getElem? (i := 10) rfl)), by decide +kernel⟩
theorem kv_X12_192 : KV RX12 192 RX12 yX12_chooses cX12_chooses 5 none 1 := ⟨(in_r30 (List.mem_of_getElem? (i := 22) rfl)), (in_r30 (List.mem_of_getElem? (i := 23) rfl)), (in_r31 (List.mem_of_getElem? (i := 0) rfl)), (in_r1 (List.mem_of_getElem? (i := 5) rfl)), (in_r31 (List.mem_of_getElem? (i := 1) rfl)), by decide +kernel⟩
theorem ks_X12_196 : KS RX12 196 yX12_partOf cX12_partOf 4 (some .int) 2 := ⟨(in_r31 (List.mem_of_getElem? (i := 14) rfl)), (in_r31 (List.mem_of_getElem? (i := 15) rfl)), (in_r1 (List.mem_of_getElem? (i := 5) rfl)), (in_r31 (List.mem_of_getElem? (i := 16) rfl)), by decide +kernel⟩
theorem kv_X12_199 : KV RX12 199 RX12 yX12_chosenIs cX12_chosenIs 4 (some .int) 3 := ⟨(in_r30 (List.mem_of_getElem? (i := 17) rfl)), (in_r30 (List.mem_of_getElem? (i := 18) rfl)), (in_r30 (List.mem_of_getElem? (i := 19) rfl)), (in_r1 (List.mem_of_getElem? (i := 5) rfl)), (in_r30 (List.mem_of_getElem? (i := 20) rfl)), by decide +kernel⟩
theorem ks_X12_203 : KS RX12 203 yX12_isTaking cX12_isTaking 2 (some .boolean) 2 := ⟨(in_r33 (List.mem_of_getElem? (i := 11) rfl)), (in_r33 (List.mem_of_getElem? (i := 12) rfl)), (in_r1 (List.mem_of_getElem? (i := 5) rfl)), (in_r33 (List.mem_of_getElem? (i := 13) rfl)), by decide +kernel⟩
theorem kv_X12_206 : KV RX12 206 RX12 yX12_takeOne cX12_takeOne 11 (some .int) 2 := ⟨(in_r33 (List.mem_of_getElem? (i := 14) rfl)), (in_r33 (List.mem_of_getElem? (i := 15) rfl)), (in_r33 (List.mem_of_getElem? (i := 16) rfl)), (in_r1 (List.mem_of_getElem? (i := 5) rfl)), (in_r33 (List.mem_of_getElem? (i := 17) rfl)), by decide +kernel⟩
theorem kv_X2_30 : KV RX2 30 RX9 yX9_isInside cX9_isInside 5 (some .boolean) 4 := ⟨(in_r25 (List.mem_of_getElem? (i := 21) rfl)), (in_r25 (List.mem_of_getElem? (i := 22) rfl)), (in_r25 (List.mem_of_getElem? (i := 23) rfl)), (in_r2 (List.mem_of_getElem? (i := 18) rfl)), (in_r26 (List.mem_of_getElem? (i := 0) rfl)), by decide +kernel⟩
theorem ks_X2_49 : KS RX2 49 yX1_indexOf cX1_indexOf 2 (some .int) 2 := ⟨(in_r26 (List.mem_of_getElem? (i := 1) rfl)), (in_r21 (List.mem_of_getElem? (i := 5) rfl)), (in_r2 (List.mem_of_getElem? (i := 10) rfl)), (in_r21 (List.mem_of_getElem? (i := 6) rfl)), by decide +kernel⟩
theorem kv_X3_29 : KV RX3 29 RX7 yX7_copyFrom cX7_copyFrom 3 none 1 := ⟨(in_r17 (List.mem_of_getElem? (i := 5) rfl)), (in_r10 (List.mem_of_getElem? (i := 22) rfl)), (in_r10 (List.mem_of_getElem? (i := 23) rfl)), (in_r1 (List.mem_of_getElem? (i := 22) rfl)), (in_r11 (List.mem_of_getElem? (i := 0) rfl)), by decide +kernel⟩
theorem ks_X4_22 : KS RX4 22 yX4_scaleOf cX4_scaleOf 1 (some .int) 1 := ⟨(in_r30 (List.mem_of_getElem? (i := 10) rfl)), (in_r29 (List.mem_of_getElem? (i := 9) rfl)), (in_r29 (List.mem_of_getElem? (i := 10) rfl)), (in_r29 (List.mem_of_getElem? (i := 11) rfl)), by decide +kernel⟩
theorem ks_X4_26 : KS RX4 26 yX4_turnsOf cX4_turnsOf 1 (some .int) 1 := ⟨(in_r30 (List.mem_of_getElem? (i := 11) rfl)), (in_r29 (List.mem_of_getElem? (i := 13) rfl)), (in_r29 (List.mem_of_getElem? (i := 10) rfl)), (in_r29 (List.mem_of_getElem? (i := 14) rfl)), by decide +kernel⟩
theorem ks_X4_29 : KS RX4 29 yX4_flipOf cX4_flipOf 1 (some .int) 1 := ⟨(in_r30 (List.mem_of_getElem? (i := 12) rfl)), (in_r29 (List.mem_of_getElem? (i := 16) rfl)), (in_r29 (List.mem_of_getElem? (i := 10) rfl)), (in_r29 (List.mem_of_getElem? (i := 17) rfl)), by decide +kernel⟩
theorem ks_X5_52 : KS RX5 52 yX4_scaleOf cX4_scaleOf 1 (some .int) 1 := ⟨(in_r29 (List.mem_of_getElem? (i := 8) rfl)), (in_r29 (List.mem_of_getElem? (i := 9) rfl)), (in_r29 (List.mem_of_getElem? (i := 10) rfl)), (in_r29 (List.mem_of_getElem? (i := 11) rfl)), by decide +kernel⟩
theorem ks_X5_56 : KS RX5 56 yX4_turnsOf cX4_turnsOf 1 (some .int) 1 := ⟨(in_r29 (List.mem_of_getElem? (i := 12) rfl)), (in_r29 (List.mem_of_getElem? (i := 13) rfl)), (in_r29 (List.mem_of_getElem? (i := 10) rfl)), (in_r29 (List.mem_of_getElem? (i := 14) rfl)), by decide +kernel⟩
theorem ks_X5_59 : KS RX5 59 yX4_flipOf cX4_flipOf 1 (some .int) 1 := ⟨(in_r29 (List.mem_of_getElem? (i := 15) rfl)), (in_r29 (List.mem_of_getElem? (i := 16) rfl)), (in_r29 (List.mem_of_getElem? (i := 10) rfl)), (in_r29 (List.mem_of_getElem? (i := 17) rfl)), by decide +kernel⟩
theorem kv_X5_62 : KV RX5 62 RX9 yX9_form cX9_form 10 none 4 := ⟨(in_r29 (List.mem_of_getElem? (i := 18) rfl)), (in_r24 (List.mem_of_getElem? (i := 9) rfl)), (in_r24 (List.mem_of_getElem? (i := 10) rfl)), (in_r2 (List.mem_of_getElem? (i := 18) rfl)), (in_r24 (List.mem_of_getElem? (i := 11) rfl)), by decide +kernel⟩
theorem kv_X5_74 : KV RX5 74 RX2 yX2_weigh cX2_weigh 7 (some .boolean) 4 := ⟨(in_r29 (List.mem_of_getElem? (i := 19) rfl)), (in_r25 (List.mem_of_getElem? (i := 18) rfl)), (in_r25 (List.mem_of_getElem? (i := 19) rfl)), (in_r2 (List.mem_of_getElem? (i := 22) rfl)), (in_r25 (List.mem_of_getElem? (i := 20) rfl)), by decide +kernel⟩
theorem ks_X5_78 : KS RX5 78 yX4_of cX4_of 3 (some .int) 3 := ⟨(in_r29 (List.mem_of_getElem? (i := 20) rfl)), (in_r29 (List.mem_of_getElem? (i := 21) rfl)), (in_r29 (List.mem_of_getElem? (i := 10) rfl)), (in_r29 (List.mem_of_getElem? (i := 22) rfl)), by decide +kernel⟩
theorem kv_X5_82 : KV RX5 82 RX5 yX5_enter cX5_enter 4 none 2 := ⟨(in_r29 (List.mem_of_getElem? (i := 23) rfl)), (in_r30 (List.mem_of_getElem? (i := 0) rfl)), (in_r30 (List.mem_of_getElem? (i := 1) rfl)), (in_r2 (List.mem_of_getElem? (i := 14) rfl)), (in_r30 (List.mem_of_getElem? (i := 2) rfl)), by decide +kernel⟩
theorem kv_X5_92 : KV RX5 92 RX5 yX5_firstOpen cX5_firstOpen 3 (some .int) 0 := ⟨(in_r32 (List.mem_of_getElem? (i := 1) rfl)), (in_r32 (List.mem_of_getElem? (i := 2) rfl)), (in_r32 (List.mem_of_getElem? (i := 3) rfl)), (in_r2 (List.mem_of_getElem? (i := 14) rfl)), (in_r32 (List.mem_of_getElem? (i := 4) rfl)), by decide +kernel⟩
theorem ks_X5_96 : KS RX5 96 yX4_part cX4_part 5 (some .int) 2 := ⟨(in_r32 (List.mem_of_getElem? (i := 5) rfl)), (in_r30 (List.mem_of_getElem? (i := 8) rfl)), (in_r29 (List.mem_of_getElem? (i := 10) rfl)), (in_r30 (List.mem_of_getElem? (i := 9) rfl)), by decide +kernel⟩
theorem kv_X5_99 : KV RX5 99 RX5 yX5_closeAround cX5_closeAround 7 none 3 := ⟨(in_r32 (List.mem_of_getElem? (i := 6) rfl)), (in_r32 (List.mem_of_getElem? (i := 7) rfl)), (in_r32 (List.mem_of_getElem? (i := 8) rfl)), (in_r2 (List.mem_of_getElem? (i := 14) rfl)), (in_r32 (List.mem_of_getElem? (i := 9) rfl)), by decide +kernel⟩
theorem kv_X6_26 : KV RX6 26 RX7 yX7_clear cX7_clear 2 none 0 := ⟨(in_r9 (List.mem_of_getElem? (i := 4) rfl)), (in_r9 (List.mem_of_getElem? (i := 5) rfl)), (in_r9 (List.mem_of_getElem? (i := 6) rfl)), (in_r1 (List.mem_of_getElem? (i := 22) rfl)), (in_r9 (List.mem_of_getElem? (i := 7) rfl)), by decide +kernel⟩
theorem kv_X6_34 : KV RX6 34 RX6 yX6_readItem cX6_readItem 4 (some .int) 2 := ⟨(in_r9 (List.mem_of_getElem? (i := 8) rfl)), (in_r9 (List.mem_of_getElem? (i := 9) rfl)), (in_r9 (List.mem_of_getElem? (i := 10) rfl)), (in_r1 (List.mem_of_getElem? (i := 18) rfl)), (in_r9 (List.mem_of_getElem? (i := 11) rfl)), by decide +kernel⟩
theorem kv_X6_38 : KV RX6 38 RX8 yX8_at cX8_at 2 (some .char) 1 := ⟨(in_r9 (List.mem_of_getElem? (i := 12) rfl)), (in_r9 (List.mem_of_getElem? (i := 13) rfl)), (in_r9 (List.mem_of_getElem? (i := 14) rfl)), (in_r1 (List.mem_of_getElem? (i := 14) rfl)), (in_r9 (List.mem_of_getElem? (i := 15) rfl)), by decide +kernel⟩
theorem kv_X6_42 : KV RX6 42 RX6 yX6_readGrid cX6_readGrid 5 (some .int) 2 := ⟨(in_r9 (List.mem_of_getElem? (i := 16) rfl)), (in_r9 (List.mem_of_getElem? (i := 17) rfl)), (in_r9 (List.mem_of_getElem? (i := 18) rfl)), (in_r1 (List.mem_of_getElem? (i := 18) rfl)), (in_r9 (List.mem_of_getElem? (i := 19) rfl)), by decide +kernel⟩
theorem kv_X6_45 : KV RX6 45 RX6 yX6_readRow cX6_readRow 6 (some .int) 2 := ⟨(in_r10 (List.mem_of_getElem? (i := 1) rfl)), (in_r10 (List.mem_of_getElem? (i := 2) rfl)), (in_r10 (List.mem_of_getElem? (i := 3) rfl)), (in_r1 (List.mem_of_getElem? (i := 18) rfl)), (in_r10 (List.mem_of_getElem? (i := 4) rfl)), by decide +kernel⟩
theorem kv_X6_48 : KV RX6 48 RX6 yX6_readDot cX6_readDot 5 (some .int) 2 := ⟨(in_r10 (List.mem_of_getElem? (i := 5) rfl)), (in_r10 (List.mem_of_getElem? (i := 6) rfl)), (in_r10 (List.mem_of_getElem? (i := 7) rfl)), (in_r1 (List.mem_of_getElem? (i := 18) rfl)), (in_r10 (List.mem_of_getElem? (i := 8) rfl)), by decide +kernel⟩
theorem kv_X6_51 : KV RX6 51 RX6 yX6_readMetric cX6_readMetric 6 (some .int) 2 := ⟨(in_r10 (List.mem_of_getElem? (i := 17) rfl)), (in_r10 (List.mem_of_getElem? (i := 18) rfl)), (in_r10 (List.mem_of_getElem? (i := 19) rfl)), (in_r1 (List.mem_of_getElem? (i := 18) rfl)), (in_r10 (List.mem_of_getElem? (i := 20) rfl)), by decide +kernel⟩
theorem ks_X6_54 : KS RX6 54 yX6_sideOf cX6_sideOf 1 (some .int) 1 := ⟨(in_r9 (List.mem_of_getElem? (i := 20) rfl)), (in_r9 (List.mem_of_getElem? (i := 21) rfl)), (in_r1 (List.mem_of_getElem? (i := 18) rfl)), (in_r9 (List.mem_of_getElem? (i := 22) rfl)), by decide +kernel⟩
theorem kn_X6_58 : KN RX6 58 RX11 yX11_isFrom cX11_isFrom 3 (some .boolean) 3 := ⟨List.mem_of_getElem? (i := 13) rfl, (in_r9 (List.mem_of_getElem? (i := 23) rfl)), (in_r1 (List.mem_of_getElem? (i := 2) rfl)), (in_r10 (List.mem_of_getElem? (i := 0) rfl)), by decide +kernel⟩
theorem kv_X6_75 : KV RX6 75 RX7 yX7_hasDot cX7_hasDot 4 (some .boolean) 2 := ⟨(in_r10 (List.mem_of_getElem? (i := 9) rfl)), (in_r10 (List.mem_of_getElem? (i := 10) rfl)), (in_r10 (List.mem_of_getElem? (i := 11) rfl)), (in_r1 (List.mem_of_getElem? (i := 22) rfl)), (in_r10 (List.mem_of_getElem? (i := 12) rfl)), by decide +kernel⟩
theorem kv_X6_79 : KV RX6 79 RX7 yX7_addDot cX7_addDot 3 none 2 := ⟨(in_r10 (List.mem_of_getElem? (i := 13) rfl)), (in_r10 (List.mem_of_getElem? (i := 14) rfl)), (in_r10 (List.mem_of_getElem? (i := 15) rfl)), (in_r1 (List.mem_of_getElem? (i := 22) rfl)), (in_r10 (List.mem_of_getElem? (i := 16) rfl)), by decide +kernel⟩
theorem kv_X7_37 : KV RX7 37 RX7 yX7_has cX7_has 3 (some .boolean) 2 := ⟨(in_r16 (List.mem_of_getElem? (i := 16) rfl)), (in_r16 (List.mem_of_getElem? (i := 8) rfl)), (in_r16 (List.mem_of_getElem? (i := 9) rfl)), (in_r1 (List.mem_of_getElem? (i := 22) rfl)), (in_r16 (List.mem_of_getElem? (i := 10) rfl)), by decide +kernel⟩
theorem ks_X7_41 : KS RX7 41 yJ6_bitCount_0f7a4 cJ6_bitCount_0f7a4 1 (some .int) 1 := ⟨(in_r15 (List.mem_of_getElem? (i := 9) rfl)), (in_r15 (List.mem_of_getElem? (i := 10) rfl)), (in_r15 (List.mem_of_getElem? (i := 11) rfl)), (in_r15 (List.mem_of_getElem? (i := 12) rfl)), by decide +kernel⟩
theorem ks_X9_43 : KS RX9 43 yJ9_floorDiv_7cf53 cJ9_floorDiv_7cf53 3 (some .int) 2 := ⟨(in_r24 (List.mem_of_getElem? (i := 12) rfl)), (in_r24 (List.mem_of_getElem? (i := 13) rfl)), (in_r24 (List.mem_of_getElem? (i := 14) rfl)), (in_r24 (List.mem_of_getElem? (i := 15) rfl)), by decide +kernel⟩
theorem kv_X9_49 : KV RX9 49 RX9 yX9_findBox cX9_findBox 2 none 0 := ⟨(in_r24 (List.mem_of_getElem? (i := 16) rfl)), (in_r24 (List.mem_of_getElem? (i := 17) rfl)), (in_r24 (List.mem_of_getElem? (i := 18) rfl)), (in_r2 (List.mem_of_getElem? (i := 18) rfl)), (in_r24 (List.mem_of_getElem? (i := 19) rfl)), by decide +kernel⟩
end
