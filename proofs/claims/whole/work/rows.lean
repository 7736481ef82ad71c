section
-- ===== PART A: goes FIRST, ahead of the names: the tables' words, and 'selects' of the private methods out of them =====
/-- a private method of a class that the tables say can be made, by its rows of tables_1 -/
def lw_okq (q : MethodName × Nat) : Prop := (q.1.cls ≠ "java/lang/invoke/MethodHandle" ∧ q.1.cls ≠ "java/lang/invoke/VarHandle") ∧ Cond.instantiable q.1.cls q.2 ∈ tables_1 ∧ Cond.privateMethod q.1 ∈ tables_1 ∧ Cond.instanceMethod q.1 ∈ tables_1
theorem lw_p0 : lw_okq (⟨"RegretPegs", "refuse", "(I)I"⟩, 9) := ⟨⟨by decide +kernel, by decide +kernel⟩, List.mem_of_getElem? (i := 16) (by decide +kernel), List.mem_of_getElem? (i := 240) (by decide +kernel), List.mem_of_getElem? (i := 241) (by decide +kernel)⟩
theorem lw_p1 : lw_okq (⟨"RegretPegs", "isGuest", "(I)Z"⟩, 9) := ⟨⟨by decide +kernel, by decide +kernel⟩, List.mem_of_getElem? (i := 16) (by decide +kernel), List.mem_of_getElem? (i := 253) (by decide +kernel), List.mem_of_getElem? (i := 254) (by decide +kernel)⟩
theorem lw_p2 : lw_okq (⟨"RegretPegs", "replace", "([IIII)I"⟩, 9) := ⟨⟨by decide +kernel, by decide +kernel⟩, List.mem_of_getElem? (i := 16) (by decide +kernel), List.mem_of_getElem? (i := 269) (by decide +kernel), List.mem_of_getElem? (i := 270) (by decide +kernel)⟩
theorem lw_p3 : lw_okq (⟨"RegretPegs", "isPeg", "(I)Z"⟩, 9) := ⟨⟨by decide +kernel, by decide +kernel⟩, List.mem_of_getElem? (i := 16) (by decide +kernel), List.mem_of_getElem? (i := 277) (by decide +kernel), List.mem_of_getElem? (i := 278) (by decide +kernel)⟩
theorem lw_p4 : lw_okq (⟨"RegretPegs$Reader", "readLevel", "(II)Z"⟩, 6) := ⟨⟨by decide +kernel, by decide +kernel⟩, List.mem_of_getElem? (i := 130) (by decide +kernel), List.mem_of_getElem? (i := 317) (by decide +kernel), List.mem_of_getElem? (i := 318) (by decide +kernel)⟩
theorem lw_p5 : lw_okq (⟨"RegretPegs$Reader", "readQ", "(I)Z"⟩, 6) := ⟨⟨by decide +kernel, by decide +kernel⟩, List.mem_of_getElem? (i := 130) (by decide +kernel), List.mem_of_getElem? (i := 321) (by decide +kernel), List.mem_of_getElem? (i := 322) (by decide +kernel)⟩
theorem lw_p6 : lw_okq (⟨"RegretPegs$Reader", "ahead", "()I"⟩, 6) := ⟨⟨by decide +kernel, by decide +kernel⟩, List.mem_of_getElem? (i := 130) (by decide +kernel), List.mem_of_getElem? (i := 325) (by decide +kernel), List.mem_of_getElem? (i := 326) (by decide +kernel)⟩
theorem lw_p7 : lw_okq (⟨"RegretPegs$Reader", "readNumber", "()V"⟩, 6) := ⟨⟨by decide +kernel, by decide +kernel⟩, List.mem_of_getElem? (i := 130) (by decide +kernel), List.mem_of_getElem? (i := 332) (by decide +kernel), List.mem_of_getElem? (i := 333) (by decide +kernel)⟩
theorem lw_p8 : lw_okq (⟨"RegretPegs$Reader", "emit", "(I)V"⟩, 6) := ⟨⟨by decide +kernel, by decide +kernel⟩, List.mem_of_getElem? (i := 130) (by decide +kernel), List.mem_of_getElem? (i := 336) (by decide +kernel), List.mem_of_getElem? (i := 337) (by decide +kernel)⟩
theorem lw_p9 : lw_okq (⟨"RegretPegs$Reader", "nameOf", "(I)I"⟩, 6) := ⟨⟨by decide +kernel, by decide +kernel⟩, List.mem_of_getElem? (i := 130) (by decide +kernel), List.mem_of_getElem? (i := 340) (by decide +kernel), List.mem_of_getElem? (i := 341) (by decide +kernel)⟩
theorem lw_p10 : lw_okq (⟨"RegretPegs$Reader", "readNot", "(I)Z"⟩, 6) := ⟨⟨by decide +kernel, by decide +kernel⟩, List.mem_of_getElem? (i := 130) (by decide +kernel), List.mem_of_getElem? (i := 344) (by decide +kernel), List.mem_of_getElem? (i := 345) (by decide +kernel)⟩
theorem lw_p11 : lw_okq (⟨"RegretPegs$Reader", "readClosed", "(I)Z"⟩, 6) := ⟨⟨by decide +kernel, by decide +kernel⟩, List.mem_of_getElem? (i := 130) (by decide +kernel), List.mem_of_getElem? (i := 348) (by decide +kernel), List.mem_of_getElem? (i := 349) (by decide +kernel)⟩
theorem lw_p12 : lw_okq (⟨"RegretPegs", "useLaw", "(I)LRegretPegs$Law;"⟩, 9) := ⟨⟨by decide +kernel, by decide +kernel⟩, List.mem_of_getElem? (i := 16) (by decide +kernel), List.mem_of_getElem? (i := 355) (by decide +kernel), List.mem_of_getElem? (i := 356) (by decide +kernel)⟩
theorem lw_p13 : lw_okq (⟨"RegretPegs$Law", "work", "(III)I"⟩, 4) := ⟨⟨by decide +kernel, by decide +kernel⟩, List.mem_of_getElem? (i := 69) (by decide +kernel), List.mem_of_getElem? (i := 374) (by decide +kernel), List.mem_of_getElem? (i := 375) (by decide +kernel)⟩
theorem lw_p14 : lw_okq (⟨"RegretPegs$Ball", "noteDanced", "(I)V"⟩, 7) := ⟨⟨by decide +kernel, by decide +kernel⟩, List.mem_of_getElem? (i := 30) (by decide +kernel), List.mem_of_getElem? (i := 402) (by decide +kernel), List.mem_of_getElem? (i := 403) (by decide +kernel)⟩
theorem lw_p15 : lw_okq (⟨"RegretPegs$Ball", "growRue", "()V"⟩, 7) := ⟨⟨by decide +kernel, by decide +kernel⟩, List.mem_of_getElem? (i := 30) (by decide +kernel), List.mem_of_getElem? (i := 415) (by decide +kernel), List.mem_of_getElem? (i := 416) (by decide +kernel)⟩
def lw_privs_1 : List (MethodName × Nat) := [(⟨"RegretPegs", "refuse", "(I)I"⟩, 9), (⟨"RegretPegs", "isGuest", "(I)Z"⟩, 9), (⟨"RegretPegs", "replace", "([IIII)I"⟩, 9), (⟨"RegretPegs", "isPeg", "(I)Z"⟩, 9), (⟨"RegretPegs$Reader", "readLevel", "(II)Z"⟩, 6), (⟨"RegretPegs$Reader", "readQ", "(I)Z"⟩, 6), (⟨"RegretPegs$Reader", "ahead", "()I"⟩, 6), (⟨"RegretPegs$Reader", "readNumber", "()V"⟩, 6), (⟨"RegretPegs$Reader", "emit", "(I)V"⟩, 6), (⟨"RegretPegs$Reader", "nameOf", "(I)I"⟩, 6), (⟨"RegretPegs$Reader", "readNot", "(I)Z"⟩, 6), (⟨"RegretPegs$Reader", "readClosed", "(I)Z"⟩, 6), (⟨"RegretPegs", "useLaw", "(I)LRegretPegs$Law;"⟩, 9), (⟨"RegretPegs$Law", "work", "(III)I"⟩, 4), (⟨"RegretPegs$Ball", "noteDanced", "(I)V"⟩, 7), (⟨"RegretPegs$Ball", "growRue", "()V"⟩, 7)]
theorem lw_r1 : ∀ q ∈ lw_privs_1, lw_okq q := List.forall_mem_cons.mpr ⟨lw_p0, List.forall_mem_cons.mpr ⟨lw_p1, List.forall_mem_cons.mpr ⟨lw_p2, List.forall_mem_cons.mpr ⟨lw_p3, List.forall_mem_cons.mpr ⟨lw_p4, List.forall_mem_cons.mpr ⟨lw_p5, List.forall_mem_cons.mpr ⟨lw_p6, List.forall_mem_cons.mpr ⟨lw_p7, List.forall_mem_cons.mpr ⟨lw_p8, List.forall_mem_cons.mpr ⟨lw_p9, List.forall_mem_cons.mpr ⟨lw_p10, List.forall_mem_cons.mpr ⟨lw_p11, List.forall_mem_cons.mpr ⟨lw_p12, List.forall_mem_cons.mpr ⟨lw_p13, List.forall_mem_cons.mpr ⟨lw_p14, List.forall_mem_cons.mpr ⟨lw_p15, fun _ h => absurd h List.not_mem_nil⟩⟩⟩⟩⟩⟩⟩⟩⟩⟩⟩⟩⟩⟩⟩⟩
theorem lw_p16 : lw_okq (⟨"RegretPegs$Ball", "shiftNeighbours", "(LRegretPegs$Law;)V"⟩, 7) := ⟨⟨by decide +kernel, by decide +kernel⟩, List.mem_of_getElem? (i := 30) (by decide +kernel), List.mem_of_getElem? (i := 421) (by decide +kernel), List.mem_of_getElem? (i := 422) (by decide +kernel)⟩
theorem lw_p17 : lw_okq (⟨"RegretPegs$Evening", "draw", "()I"⟩, 9) := ⟨⟨by decide +kernel, by decide +kernel⟩, List.mem_of_getElem? (i := 24) (by decide +kernel), List.mem_of_getElem? (i := 438) (by decide +kernel), List.mem_of_getElem? (i := 439) (by decide +kernel)⟩
theorem lw_p18 : lw_okq (⟨"RegretPegs", "pegHavingDanced", "(III)I"⟩, 9) := ⟨⟨by decide +kernel, by decide +kernel⟩, List.mem_of_getElem? (i := 16) (by decide +kernel), List.mem_of_getElem? (i := 466) (by decide +kernel), List.mem_of_getElem? (i := 467) (by decide +kernel)⟩
theorem lw_p19 : lw_okq (⟨"RegretPegs", "danceThatHelps", "(LRegretPegs$Ball;III)I"⟩, 9) := ⟨⟨by decide +kernel, by decide +kernel⟩, List.mem_of_getElem? (i := 16) (by decide +kernel), List.mem_of_getElem? (i := 474) (by decide +kernel), List.mem_of_getElem? (i := 475) (by decide +kernel)⟩
theorem lw_p20 : lw_okq (⟨"RegretPegs", "firstOfTwoThatHelp", "(III)I"⟩, 9) := ⟨⟨by decide +kernel, by decide +kernel⟩, List.mem_of_getElem? (i := 16) (by decide +kernel), List.mem_of_getElem? (i := 478) (by decide +kernel), List.mem_of_getElem? (i := 479) (by decide +kernel)⟩
theorem lw_p21 : lw_okq (⟨"RegretPegs$Voices", "speak", "(IIII)I"⟩, 5) := ⟨⟨by decide +kernel, by decide +kernel⟩, List.mem_of_getElem? (i := 158) (by decide +kernel), List.mem_of_getElem? (i := 540) (by decide +kernel), List.mem_of_getElem? (i := 541) (by decide +kernel)⟩
theorem lw_p22 : lw_okq (⟨"RegretPegs$Voices", "note", "(I)V"⟩, 5) := ⟨⟨by decide +kernel, by decide +kernel⟩, List.mem_of_getElem? (i := 158) (by decide +kernel), List.mem_of_getElem? (i := 546) (by decide +kernel), List.mem_of_getElem? (i := 547) (by decide +kernel)⟩
theorem lw_p23 : lw_okq (⟨"RegretPegs$Voices", "answer", "(IIII)I"⟩, 5) := ⟨⟨by decide +kernel, by decide +kernel⟩, List.mem_of_getElem? (i := 158) (by decide +kernel), List.mem_of_getElem? (i := 551) (by decide +kernel), List.mem_of_getElem? (i := 552) (by decide +kernel)⟩
theorem lw_p24 : lw_okq (⟨"RegretPegsModel", "finding", "(I)I"⟩, 24) := ⟨⟨by decide +kernel, by decide +kernel⟩, List.mem_of_getElem? (i := 631) (by decide +kernel), List.mem_of_getElem? (i := 722) (by decide +kernel), List.mem_of_getElem? (i := 723) (by decide +kernel)⟩
theorem lw_p25 : lw_okq (⟨"RegretPegsModel", "either", "()V"⟩, 24) := ⟨⟨by decide +kernel, by decide +kernel⟩, List.mem_of_getElem? (i := 631) (by decide +kernel), List.mem_of_getElem? (i := 733) (by decide +kernel), List.mem_of_getElem? (i := 734) (by decide +kernel)⟩
theorem lw_p26 : lw_okq (⟨"RegretPegsModel", "both", "()V"⟩, 24) := ⟨⟨by decide +kernel, by decide +kernel⟩, List.mem_of_getElem? (i := 631) (by decide +kernel), List.mem_of_getElem? (i := 737) (by decide +kernel), List.mem_of_getElem? (i := 738) (by decide +kernel)⟩
theorem lw_p27 : lw_okq (⟨"RegretPegsModel", "compared", "()V"⟩, 24) := ⟨⟨by decide +kernel, by decide +kernel⟩, List.mem_of_getElem? (i := 631) (by decide +kernel), List.mem_of_getElem? (i := 741) (by decide +kernel), List.mem_of_getElem? (i := 742) (by decide +kernel)⟩
theorem lw_p28 : lw_okq (⟨"RegretPegsModel", "sum", "()V"⟩, 24) := ⟨⟨by decide +kernel, by decide +kernel⟩, List.mem_of_getElem? (i := 631) (by decide +kernel), List.mem_of_getElem? (i := 745) (by decide +kernel), List.mem_of_getElem? (i := 746) (by decide +kernel)⟩
theorem lw_p29 : lw_okq (⟨"RegretPegsModel", "product", "()V"⟩, 24) := ⟨⟨by decide +kernel, by decide +kernel⟩, List.mem_of_getElem? (i := 631) (by decide +kernel), List.mem_of_getElem? (i := 749) (by decide +kernel), List.mem_of_getElem? (i := 750) (by decide +kernel)⟩
theorem lw_p30 : lw_okq (⟨"RegretPegsModel", "one", "()V"⟩, 24) := ⟨⟨by decide +kernel, by decide +kernel⟩, List.mem_of_getElem? (i := 631) (by decide +kernel), List.mem_of_getElem? (i := 753) (by decide +kernel), List.mem_of_getElem? (i := 754) (by decide +kernel)⟩
theorem lw_p31 : lw_okq (⟨"RegretPegsModel", "here", "()I"⟩, 24) := ⟨⟨by decide +kernel, by decide +kernel⟩, List.mem_of_getElem? (i := 631) (by decide +kernel), List.mem_of_getElem? (i := 757) (by decide +kernel), List.mem_of_getElem? (i := 758) (by decide +kernel)⟩
def lw_privs_2 : List (MethodName × Nat) := [(⟨"RegretPegs$Ball", "shiftNeighbours", "(LRegretPegs$Law;)V"⟩, 7), (⟨"RegretPegs$Evening", "draw", "()I"⟩, 9), (⟨"RegretPegs", "pegHavingDanced", "(III)I"⟩, 9), (⟨"RegretPegs", "danceThatHelps", "(LRegretPegs$Ball;III)I"⟩, 9), (⟨"RegretPegs", "firstOfTwoThatHelp", "(III)I"⟩, 9), (⟨"RegretPegs$Voices", "speak", "(IIII)I"⟩, 5), (⟨"RegretPegs$Voices", "note", "(I)V"⟩, 5), (⟨"RegretPegs$Voices", "answer", "(IIII)I"⟩, 5), (⟨"RegretPegsModel", "finding", "(I)I"⟩, 24), (⟨"RegretPegsModel", "either", "()V"⟩, 24), (⟨"RegretPegsModel", "both", "()V"⟩, 24), (⟨"RegretPegsModel", "compared", "()V"⟩, 24), (⟨"RegretPegsModel", "sum", "()V"⟩, 24), (⟨"RegretPegsModel", "product", "()V"⟩, 24), (⟨"RegretPegsModel", "one", "()V"⟩, 24), (⟨"RegretPegsModel", "here", "()I"⟩, 24)]
theorem lw_r2 : ∀ q ∈ lw_privs_2, lw_okq q := List.forall_mem_cons.mpr ⟨lw_p16, List.forall_mem_cons.mpr ⟨lw_p17, List.forall_mem_cons.mpr ⟨lw_p18, List.forall_mem_cons.mpr ⟨lw_p19, List.forall_mem_cons.mpr ⟨lw_p20, List.forall_mem_cons.mpr ⟨lw_p21, List.forall_mem_cons.mpr ⟨lw_p22, List.forall_mem_cons.mpr ⟨lw_p23, List.forall_mem_cons.mpr ⟨lw_p24, List.forall_mem_cons.mpr ⟨lw_p25, List.forall_mem_cons.mpr ⟨lw_p26, List.forall_mem_cons.mpr ⟨lw_p27, List.forall_mem_cons.mpr ⟨lw_p28, List.forall_mem_cons.mpr ⟨lw_p29, List.forall_mem_cons.mpr ⟨lw_p30, List.forall_mem_cons.mpr ⟨lw_p31, fun _ h => absurd h List.not_mem_nil⟩⟩⟩⟩⟩⟩⟩⟩⟩⟩⟩⟩⟩⟩⟩⟩
theorem lw_p32 : lw_okq (⟨"RegretPegsModel", "codes", "(I)V"⟩, 24) := ⟨⟨by decide +kernel, by decide +kernel⟩, List.mem_of_getElem? (i := 631) (by decide +kernel), List.mem_of_getElem? (i := 761) (by decide +kernel), List.mem_of_getElem? (i := 762) (by decide +kernel)⟩
theorem lw_p33 : lw_okq (⟨"RegretPegsModel", "takes", "(I)Z"⟩, 24) := ⟨⟨by decide +kernel, by decide +kernel⟩, List.mem_of_getElem? (i := 631) (by decide +kernel), List.mem_of_getElem? (i := 765) (by decide +kernel), List.mem_of_getElem? (i := 766) (by decide +kernel)⟩
theorem lw_p34 : lw_okq (⟨"RegretPegsModel", "nameOf", "(I)I"⟩, 24) := ⟨⟨by decide +kernel, by decide +kernel⟩, List.mem_of_getElem? (i := 631) (by decide +kernel), List.mem_of_getElem? (i := 769) (by decide +kernel), List.mem_of_getElem? (i := 770) (by decide +kernel)⟩
theorem lw_p35 : lw_okq (⟨"RegretPegsModel", "given", "(IIII)I"⟩, 24) := ⟨⟨by decide +kernel, by decide +kernel⟩, List.mem_of_getElem? (i := 631) (by decide +kernel), List.mem_of_getElem? (i := 825) (by decide +kernel), List.mem_of_getElem? (i := 826) (by decide +kernel)⟩
theorem lw_p36 : lw_okq (⟨"RegretPegsModel", "hasText", "(I)Z"⟩, 24) := ⟨⟨by decide +kernel, by decide +kernel⟩, List.mem_of_getElem? (i := 631) (by decide +kernel), List.mem_of_getElem? (i := 829) (by decide +kernel), List.mem_of_getElem? (i := 830) (by decide +kernel)⟩
theorem lw_p37 : lw_okq (⟨"RegretPegsModel", "worked", "(I)I"⟩, 24) := ⟨⟨by decide +kernel, by decide +kernel⟩, List.mem_of_getElem? (i := 631) (by decide +kernel), List.mem_of_getElem? (i := 833) (by decide +kernel), List.mem_of_getElem? (i := 834) (by decide +kernel)⟩
theorem lw_p38 : lw_okq (⟨"RegretPegsModel", "comes", "(II)I"⟩, 24) := ⟨⟨by decide +kernel, by decide +kernel⟩, List.mem_of_getElem? (i := 631) (by decide +kernel), List.mem_of_getElem? (i := 855) (by decide +kernel), List.mem_of_getElem? (i := 856) (by decide +kernel)⟩
theorem lw_p39 : lw_okq (⟨"RegretPegsModel", "isGuest", "(I)Z"⟩, 24) := ⟨⟨by decide +kernel, by decide +kernel⟩, List.mem_of_getElem? (i := 631) (by decide +kernel), List.mem_of_getElem? (i := 866) (by decide +kernel), List.mem_of_getElem? (i := 867) (by decide +kernel)⟩
theorem lw_p40 : lw_okq (⟨"RegretPegsModel", "guestIs", "(II)I"⟩, 24) := ⟨⟨by decide +kernel, by decide +kernel⟩, List.mem_of_getElem? (i := 631) (by decide +kernel), List.mem_of_getElem? (i := 870) (by decide +kernel), List.mem_of_getElem? (i := 871) (by decide +kernel)⟩
theorem lw_p41 : lw_okq (⟨"RegretPegsModel", "pegOf", "(I)I"⟩, 24) := ⟨⟨by decide +kernel, by decide +kernel⟩, List.mem_of_getElem? (i := 631) (by decide +kernel), List.mem_of_getElem? (i := 874) (by decide +kernel), List.mem_of_getElem? (i := 875) (by decide +kernel)⟩
theorem lw_p42 : lw_okq (⟨"RegretPegsModel", "growsNow", "(I)I"⟩, 24) := ⟨⟨by decide +kernel, by decide +kernel⟩, List.mem_of_getElem? (i := 631) (by decide +kernel), List.mem_of_getElem? (i := 878) (by decide +kernel), List.mem_of_getElem? (i := 879) (by decide +kernel)⟩
theorem lw_p43 : lw_okq (⟨"RegretPegsModel", "turn", "(II)I"⟩, 24) := ⟨⟨by decide +kernel, by decide +kernel⟩, List.mem_of_getElem? (i := 631) (by decide +kernel), List.mem_of_getElem? (i := 886) (by decide +kernel), List.mem_of_getElem? (i := 887) (by decide +kernel)⟩
theorem lw_p44 : lw_okq (⟨"RegretPegsModel", "hangs", "(II)I"⟩, 24) := ⟨⟨by decide +kernel, by decide +kernel⟩, List.mem_of_getElem? (i := 631) (by decide +kernel), List.mem_of_getElem? (i := 898) (by decide +kernel), List.mem_of_getElem? (i := 899) (by decide +kernel)⟩
theorem lw_p45 : lw_okq (⟨"RegretPegsModel", "areTwo", "(II)Z"⟩, 24) := ⟨⟨by decide +kernel, by decide +kernel⟩, List.mem_of_getElem? (i := 631) (by decide +kernel), List.mem_of_getElem? (i := 921) (by decide +kernel), List.mem_of_getElem? (i := 922) (by decide +kernel)⟩
theorem lw_p46 : lw_okq (⟨"RegretPegsModel", "dancing", "(II)V"⟩, 24) := ⟨⟨by decide +kernel, by decide +kernel⟩, List.mem_of_getElem? (i := 631) (by decide +kernel), List.mem_of_getElem? (i := 926) (by decide +kernel), List.mem_of_getElem? (i := 927) (by decide +kernel)⟩
theorem lw_p47 : lw_okq (⟨"RegretPegsModel", "rue", "(I)I"⟩, 24) := ⟨⟨by decide +kernel, by decide +kernel⟩, List.mem_of_getElem? (i := 631) (by decide +kernel), List.mem_of_getElem? (i := 930) (by decide +kernel), List.mem_of_getElem? (i := 931) (by decide +kernel)⟩
def lw_privs_3 : List (MethodName × Nat) := [(⟨"RegretPegsModel", "codes", "(I)V"⟩, 24), (⟨"RegretPegsModel", "takes", "(I)Z"⟩, 24), (⟨"RegretPegsModel", "nameOf", "(I)I"⟩, 24), (⟨"RegretPegsModel", "given", "(IIII)I"⟩, 24), (⟨"RegretPegsModel", "hasText", "(I)Z"⟩, 24), (⟨"RegretPegsModel", "worked", "(I)I"⟩, 24), (⟨"RegretPegsModel", "comes", "(II)I"⟩, 24), (⟨"RegretPegsModel", "isGuest", "(I)Z"⟩, 24), (⟨"RegretPegsModel", "guestIs", "(II)I"⟩, 24), (⟨"RegretPegsModel", "pegOf", "(I)I"⟩, 24), (⟨"RegretPegsModel", "growsNow", "(I)I"⟩, 24), (⟨"RegretPegsModel", "turn", "(II)I"⟩, 24), (⟨"RegretPegsModel", "hangs", "(II)I"⟩, 24), (⟨"RegretPegsModel", "areTwo", "(II)Z"⟩, 24), (⟨"RegretPegsModel", "dancing", "(II)V"⟩, 24), (⟨"RegretPegsModel", "rue", "(I)I"⟩, 24)]
theorem lw_r3 : ∀ q ∈ lw_privs_3, lw_okq q := List.forall_mem_cons.mpr ⟨lw_p32, List.forall_mem_cons.mpr ⟨lw_p33, List.forall_mem_cons.mpr ⟨lw_p34, List.forall_mem_cons.mpr ⟨lw_p35, List.forall_mem_cons.mpr ⟨lw_p36, List.forall_mem_cons.mpr ⟨lw_p37, List.forall_mem_cons.mpr ⟨lw_p38, List.forall_mem_cons.mpr ⟨lw_p39, List.forall_mem_cons.mpr ⟨lw_p40, List.forall_mem_cons.mpr ⟨lw_p41, List.forall_mem_cons.mpr ⟨lw_p42, List.forall_mem_cons.mpr ⟨lw_p43, List.forall_mem_cons.mpr ⟨lw_p44, List.forall_mem_cons.mpr ⟨lw_p45, List.forall_mem_cons.mpr ⟨lw_p46, List.forall_mem_cons.mpr ⟨lw_p47, fun _ h => absurd h List.not_mem_nil⟩⟩⟩⟩⟩⟩⟩⟩⟩⟩⟩⟩⟩⟩⟩⟩
theorem lw_p48 : lw_okq (⟨"RegretPegsModel", "hasDanced", "(II)V"⟩, 24) := ⟨⟨by decide +kernel, by decide +kernel⟩, List.mem_of_getElem? (i := 631) (by decide +kernel), List.mem_of_getElem? (i := 934) (by decide +kernel), List.mem_of_getElem? (i := 935) (by decide +kernel)⟩
theorem lw_p49 : lw_okq (⟨"RegretPegsModel", "hoursGo", "(I)V"⟩, 24) := ⟨⟨by decide +kernel, by decide +kernel⟩, List.mem_of_getElem? (i := 631) (by decide +kernel), List.mem_of_getElem? (i := 942) (by decide +kernel), List.mem_of_getElem? (i := 943) (by decide +kernel)⟩
theorem lw_p50 : lw_okq (⟨"RegretPegsModel", "hour", "()V"⟩, 24) := ⟨⟨by decide +kernel, by decide +kernel⟩, List.mem_of_getElem? (i := 631) (by decide +kernel), List.mem_of_getElem? (i := 946) (by decide +kernel), List.mem_of_getElem? (i := 947) (by decide +kernel)⟩
theorem lw_p51 : lw_okq (⟨"RegretPegsModel", "isWrongAt", "(I)Z"⟩, 24) := ⟨⟨by decide +kernel, by decide +kernel⟩, List.mem_of_getElem? (i := 631) (by decide +kernel), List.mem_of_getElem? (i := 950) (by decide +kernel), List.mem_of_getElem? (i := 951) (by decide +kernel)⟩
theorem lw_p52 : lw_okq (⟨"RegretPegsModel", "sumOf", "(I)I"⟩, 24) := ⟨⟨by decide +kernel, by decide +kernel⟩, List.mem_of_getElem? (i := 631) (by decide +kernel), List.mem_of_getElem? (i := 954) (by decide +kernel), List.mem_of_getElem? (i := 955) (by decide +kernel)⟩
theorem lw_p53 : lw_okq (⟨"RegretPegsModel", "dancesByDraws", "()V"⟩, 24) := ⟨⟨by decide +kernel, by decide +kernel⟩, List.mem_of_getElem? (i := 631) (by decide +kernel), List.mem_of_getElem? (i := 962) (by decide +kernel), List.mem_of_getElem? (i := 963) (by decide +kernel)⟩
theorem lw_p54 : lw_okq (⟨"RegretPegsModel", "drawn", "()I"⟩, 24) := ⟨⟨by decide +kernel, by decide +kernel⟩, List.mem_of_getElem? (i := 631) (by decide +kernel), List.mem_of_getElem? (i := 966) (by decide +kernel), List.mem_of_getElem? (i := 967) (by decide +kernel)⟩
theorem lw_p55 : lw_okq (⟨"RegretPegsModel", "putBack", "(I)I"⟩, 24) := ⟨⟨by decide +kernel, by decide +kernel⟩, List.mem_of_getElem? (i := 631) (by decide +kernel), List.mem_of_getElem? (i := 981) (by decide +kernel), List.mem_of_getElem? (i := 982) (by decide +kernel)⟩
theorem lw_p56 : lw_okq (⟨"RegretPegsModel", "pegWith", "(III)I"⟩, 24) := ⟨⟨by decide +kernel, by decide +kernel⟩, List.mem_of_getElem? (i := 631) (by decide +kernel), List.mem_of_getElem? (i := 997) (by decide +kernel), List.mem_of_getElem? (i := 998) (by decide +kernel)⟩
theorem lw_p57 : lw_okq (⟨"RegretPegsModel", "hangsBy", "(IIIII)Z"⟩, 24) := ⟨⟨by decide +kernel, by decide +kernel⟩, List.mem_of_getElem? (i := 631) (by decide +kernel), List.mem_of_getElem? (i := 1005) (by decide +kernel), List.mem_of_getElem? (i := 1006) (by decide +kernel)⟩
theorem lw_p58 : lw_okq (⟨"RegretPegsModel", "isPair", "(I)Z"⟩, 24) := ⟨⟨by decide +kernel, by decide +kernel⟩, List.mem_of_getElem? (i := 631) (by decide +kernel), List.mem_of_getElem? (i := 1009) (by decide +kernel), List.mem_of_getElem? (i := 1010) (by decide +kernel)⟩
theorem lw_p59 : lw_okq (⟨"RegretPegsModel", "isSoDanced", "(III)Z"⟩, 24) := ⟨⟨by decide +kernel, by decide +kernel⟩, List.mem_of_getElem? (i := 631) (by decide +kernel), List.mem_of_getElem? (i := 1020) (by decide +kernel), List.mem_of_getElem? (i := 1021) (by decide +kernel)⟩
theorem lw_p60 : lw_okq (⟨"RegretPegsModel", "isRight", "()Z"⟩, 24) := ⟨⟨by decide +kernel, by decide +kernel⟩, List.mem_of_getElem? (i := 631) (by decide +kernel), List.mem_of_getElem? (i := 1028) (by decide +kernel), List.mem_of_getElem? (i := 1029) (by decide +kernel)⟩
theorem lw_p61 : lw_okq (⟨"RegretPegsModel", "dancesOf", "(I)I"⟩, 24) := ⟨⟨by decide +kernel, by decide +kernel⟩, List.mem_of_getElem? (i := 631) (by decide +kernel), List.mem_of_getElem? (i := 1065) (by decide +kernel), List.mem_of_getElem? (i := 1066) (by decide +kernel)⟩
theorem lw_p62 : lw_okq (⟨"RegretPegsModel", "ran", "(I)V"⟩, 24) := ⟨⟨by decide +kernel, by decide +kernel⟩, List.mem_of_getElem? (i := 631) (by decide +kernel), List.mem_of_getElem? (i := 1069) (by decide +kernel), List.mem_of_getElem? (i := 1070) (by decide +kernel)⟩
theorem lw_p63 : lw_okq (⟨"RegretPegsModel", "sighsOf", "(I)I"⟩, 24) := ⟨⟨by decide +kernel, by decide +kernel⟩, List.mem_of_getElem? (i := 631) (by decide +kernel), List.mem_of_getElem? (i := 1073) (by decide +kernel), List.mem_of_getElem? (i := 1074) (by decide +kernel)⟩
def lw_privs_4 : List (MethodName × Nat) := [(⟨"RegretPegsModel", "hasDanced", "(II)V"⟩, 24), (⟨"RegretPegsModel", "hoursGo", "(I)V"⟩, 24), (⟨"RegretPegsModel", "hour", "()V"⟩, 24), (⟨"RegretPegsModel", "isWrongAt", "(I)Z"⟩, 24), (⟨"RegretPegsModel", "sumOf", "(I)I"⟩, 24), (⟨"RegretPegsModel", "dancesByDraws", "()V"⟩, 24), (⟨"RegretPegsModel", "drawn", "()I"⟩, 24), (⟨"RegretPegsModel", "putBack", "(I)I"⟩, 24), (⟨"RegretPegsModel", "pegWith", "(III)I"⟩, 24), (⟨"RegretPegsModel", "hangsBy", "(IIIII)Z"⟩, 24), (⟨"RegretPegsModel", "isPair", "(I)Z"⟩, 24), (⟨"RegretPegsModel", "isSoDanced", "(III)Z"⟩, 24), (⟨"RegretPegsModel", "isRight", "()Z"⟩, 24), (⟨"RegretPegsModel", "dancesOf", "(I)I"⟩, 24), (⟨"RegretPegsModel", "ran", "(I)V"⟩, 24), (⟨"RegretPegsModel", "sighsOf", "(I)I"⟩, 24)]
theorem lw_r4 : ∀ q ∈ lw_privs_4, lw_okq q := List.forall_mem_cons.mpr ⟨lw_p48, List.forall_mem_cons.mpr ⟨lw_p49, List.forall_mem_cons.mpr ⟨lw_p50, List.forall_mem_cons.mpr ⟨lw_p51, List.forall_mem_cons.mpr ⟨lw_p52, List.forall_mem_cons.mpr ⟨lw_p53, List.forall_mem_cons.mpr ⟨lw_p54, List.forall_mem_cons.mpr ⟨lw_p55, List.forall_mem_cons.mpr ⟨lw_p56, List.forall_mem_cons.mpr ⟨lw_p57, List.forall_mem_cons.mpr ⟨lw_p58, List.forall_mem_cons.mpr ⟨lw_p59, List.forall_mem_cons.mpr ⟨lw_p60, List.forall_mem_cons.mpr ⟨lw_p61, List.forall_mem_cons.mpr ⟨lw_p62, List.forall_mem_cons.mpr ⟨lw_p63, fun _ h => absurd h List.not_mem_nil⟩⟩⟩⟩⟩⟩⟩⟩⟩⟩⟩⟩⟩⟩⟩⟩
theorem lw_p64 : lw_okq (⟨"RegretPegsModel", "looksOf", "(I)I"⟩, 24) := ⟨⟨by decide +kernel, by decide +kernel⟩, List.mem_of_getElem? (i := 631) (by decide +kernel), List.mem_of_getElem? (i := 1077) (by decide +kernel), List.mem_of_getElem? (i := 1078) (by decide +kernel)⟩
theorem lw_p65 : lw_okq (⟨"RegretPegsModel", "tellsOf", "(I)I"⟩, 24) := ⟨⟨by decide +kernel, by decide +kernel⟩, List.mem_of_getElem? (i := 631) (by decide +kernel), List.mem_of_getElem? (i := 1081) (by decide +kernel), List.mem_of_getElem? (i := 1082) (by decide +kernel)⟩
theorem lw_p66 : lw_okq (⟨"RegretPegsModel", "plainTells", "(I)I"⟩, 24) := ⟨⟨by decide +kernel, by decide +kernel⟩, List.mem_of_getElem? (i := 631) (by decide +kernel), List.mem_of_getElem? (i := 1085) (by decide +kernel), List.mem_of_getElem? (i := 1086) (by decide +kernel)⟩
theorem lw_p67 : lw_okq (⟨"RegretPegsModel", "idleOnes", "()I"⟩, 24) := ⟨⟨by decide +kernel, by decide +kernel⟩, List.mem_of_getElem? (i := 631) (by decide +kernel), List.mem_of_getElem? (i := 1133) (by decide +kernel), List.mem_of_getElem? (i := 1134) (by decide +kernel)⟩
def lw_privs_5 : List (MethodName × Nat) := [(⟨"RegretPegsModel", "looksOf", "(I)I"⟩, 24), (⟨"RegretPegsModel", "tellsOf", "(I)I"⟩, 24), (⟨"RegretPegsModel", "plainTells", "(I)I"⟩, 24), (⟨"RegretPegsModel", "idleOnes", "()I"⟩, 24)]
theorem lw_r5 : ∀ q ∈ lw_privs_5, lw_okq q := List.forall_mem_cons.mpr ⟨lw_p64, List.forall_mem_cons.mpr ⟨lw_p65, List.forall_mem_cons.mpr ⟨lw_p66, List.forall_mem_cons.mpr ⟨lw_p67, fun _ h => absurd h List.not_mem_nil⟩⟩⟩⟩
def lw_privs : List (MethodName × Nat) := lw_privs_1 ++ (lw_privs_2 ++ (lw_privs_3 ++ (lw_privs_4 ++ (lw_privs_5))))
def lw_tbl : List Cond := k2_sels lw_privs ++ tables_1
theorem lw_privs_ok : ∀ q ∈ lw_privs, lw_okq q := by
  show ∀ q ∈ lw_privs_1 ++ (lw_privs_2 ++ (lw_privs_3 ++ (lw_privs_4 ++ (lw_privs_5)))), lw_okq q
  exact List.forall_mem_append.mpr ⟨lw_r1, List.forall_mem_append.mpr ⟨lw_r2, List.forall_mem_append.mpr ⟨lw_r3, List.forall_mem_append.mpr ⟨lw_r4, lw_r5⟩⟩⟩⟩
-- ===== end of PART A; then your names; then what follows =====
end
section
/-! ===== BEGIN words of one list among another's, by their places ===== -/
theorem goodIn_r {big : List Cond} (ws : List Cond) (ps : List Nat) (hp : ws = ps.filterMap (fun i => big[i]?)) (h : ws.all goodWord = true) : GoodIn big ws := by
  intro w hw
  have h1 := List.all_eq_true.mp h w hw
  rw [hp] at hw
  obtain ⟨i, -, hi⟩ := List.mem_filterMap.mp hw
  have hm : w ∈ big := by first | exact List.mem_of_getElem? hi | exact List.getElem?_mem hi
  exact ⟨hm, good_of_word h1⟩
theorem goodIn_app {big a b : List Cond} (ha : GoodIn big a) (hb : GoodIn big b) : GoodIn big (a ++ b) := fun w h => (List.mem_append.mp h).elim (ha w) (hb w)
theorem goodIn_ca {big a b : List Cond} {c : Cond} (ha : GoodIn big (c :: a)) (hb : GoodIn big b) : GoodIn big (c :: (a ++ b)) := fun w h => (List.mem_cons.mp h).elim (fun e => ha w (List.mem_cons.mpr (Or.inl e))) (fun h => (List.mem_append.mp h).elim (fun h => ha w (List.mem_cons.mpr (Or.inr h))) (hb w))
theorem goodIn_sub {big ws : List Cond} (hm : ∀ w ∈ ws, w ∈ big) (h : ws.all goodWord = true) : GoodIn big ws := fun w hw => ⟨hm w hw, good_of_word (List.all_eq_true.mp h w hw)⟩
/-! ===== END ===== -/

/-! ===== BEGIN printed: names, fields, word lists, decode rows ===== -/
def RX0 : String := "RegretPegs$Ball"
def TX0 : u_T := fun k => match k with
  | 0 => ("RegretPegs$Ball", "size", "I", false)
  | 1 => ("RegretPegs$Ball", "kind", "[I", true)
  | 2 => ("RegretPegs$Ball", "m", "[I", true)
  | 3 => ("RegretPegs$Ball", "rue", "[I", true)
  | 4 => ("RegretPegs$Ball", "danced", "[I", true)
  | 5 => ("RegretPegs$Ball", "idle", "[I", true)
  | _ => ("RegretPegs$Ball", "order", "[I", true)
def tyX0 : Nat → FieldType := fun k => match k with
  | 0 => .int
  | 1 => .array .int
  | 2 => .array .int
  | 3 => .array .int
  | 4 => .array .int
  | 5 => .array .int
  | _ => .array .int
abbrev wsX00 : List Cond := u_ws RX0 TX0 7
theorem nmX0 : ∀ a, a < 7 → ∀ b, b < 7 → a ≠ b → (TX0 a).2.1 ≠ (TX0 b).2.1 := by decide +kernel
theorem tyX0_ok : ∀ k, k < 7 → parseFieldDescriptor (TX0 k).2.2.1 = some (tyX0 k) := by decide +kernel
abbrev cX0_init : ByteArray := prog_2_method_1_code
def yX0_init : MethodName := ⟨RX0, "<init>", "()V"⟩
abbrev cX0_takeFrom : ByteArray := prog_2_method_2_code
def yX0_takeFrom : MethodName := ⟨RX0, "takeFrom", "(LRegretPegs$Ball;)V"⟩
abbrev cX0_admit : ByteArray := prog_2_method_3_code
def yX0_admit : MethodName := ⟨RX0, "admit", "(II)I"⟩
abbrev cX0_pegOf : ByteArray := prog_2_method_4_code
def yX0_pegOf : MethodName := ⟨RX0, "pegOf", "(I)I"⟩
abbrev cX0_lastGuest : ByteArray := prog_2_method_5_code
def yX0_lastGuest : MethodName := ⟨RX0, "lastGuest", "()I"⟩
abbrev cX0_exchange : ByteArray := prog_2_method_6_code
def yX0_exchange : MethodName := ⟨RX0, "exchange", "(II)V"⟩
abbrev cX0_growsOn : ByteArray := prog_2_method_7_code
def yX0_growsOn : MethodName := ⟨RX0, "growsOn", "(I)I"⟩
abbrev cX0_pairUp : ByteArray := prog_2_method_8_code
def yX0_pairUp : MethodName := ⟨RX0, "pairUp", "(IILRegretPegs$Law;)V"⟩
abbrev cX0_noteDanced : ByteArray := prog_2_method_9_code
def yX0_noteDanced : MethodName := ⟨RX0, "noteDanced", "(I)V"⟩
abbrev cX0_passHours : ByteArray := prog_2_method_10_code
def yX0_passHours : MethodName := ⟨RX0, "passHours", "(ILRegretPegs$Law;)V"⟩
abbrev cX0_growRue : ByteArray := prog_2_method_11_code
def yX0_growRue : MethodName := ⟨RX0, "growRue", "()V"⟩
abbrev cX0_shiftNeighbours : ByteArray := prog_2_method_12_code
def yX0_shiftNeighbours : MethodName := ⟨RX0, "shiftNeighbours", "(LRegretPegs$Law;)V"⟩
abbrev cX0_wrongPairs : ByteArray := prog_2_method_13_code
def yX0_wrongPairs : MethodName := ⟨RX0, "wrongPairs", "()I"⟩
abbrev cX0_rueTogether : ByteArray := prog_2_method_14_code
def yX0_rueTogether : MethodName := ⟨RX0, "rueTogether", "()I"⟩
abbrev cX0_dancedTogether : ByteArray := prog_2_method_15_code
def yX0_dancedTogether : MethodName := ⟨RX0, "dancedTogether", "()I"⟩
abbrev cX0_idleSet : ByteArray := prog_2_method_16_code
def yX0_idleSet : MethodName := ⟨RX0, "idleSet", "()I"⟩
def RX1 : String := "RegretPegs$Evening"
def TX1 : u_T := fun k => match k with
  | 0 => ("RegretPegs$Evening", "ball", "LRegretPegs$Ball;", true)
  | 1 => ("RegretPegs$Evening", "dancing", "LRegretPegs$Law;", true)
  | 2 => ("RegretPegs$Evening", "shifts", "LRegretPegs$Law;", true)
  | 3 => ("RegretPegs$Evening", "tape", "[B", true)
  | 4 => ("RegretPegs$Evening", "taped", "I", false)
  | 5 => ("RegretPegs$Evening", "waiting", "[I", true)
  | 6 => ("RegretPegs$Evening", "waits", "I", false)
  | 7 => ("RegretPegs$Evening", "hour", "I", false)
  | _ => ("RegretPegs$Evening", "z", "I", false)
def tyX1 : Nat → FieldType := fun k => match k with
  | 0 => .object "RegretPegs$Ball"
  | 1 => .object "RegretPegs$Law"
  | 2 => .object "RegretPegs$Law"
  | 3 => .array .byte
  | 4 => .int
  | 5 => .array .int
  | 6 => .int
  | 7 => .int
  | _ => .int
abbrev wsX10 : List Cond := u_ws RX1 TX1 9
theorem nmX1 : ∀ a, a < 9 → ∀ b, b < 9 → a ≠ b → (TX1 a).2.1 ≠ (TX1 b).2.1 := by decide +kernel
theorem tyX1_ok : ∀ k, k < 9 → parseFieldDescriptor (TX1 k).2.2.1 = some (tyX1 k) := by decide +kernel
abbrev cX1_init : ByteArray := prog_3_method_1_code
def yX1_init : MethodName := ⟨RX1, "<init>", "()V"⟩
abbrev cX1_takeFrom : ByteArray := prog_3_method_2_code
def yX1_takeFrom : MethodName := ⟨RX1, "takeFrom", "(LRegretPegs$Evening;)V"⟩
abbrev cX1_holdBall : ByteArray := prog_3_method_3_code
def yX1_holdBall : MethodName := ⟨RX1, "holdBall", "()V"⟩
abbrev cX1_draw : ByteArray := prog_3_method_4_code
def yX1_draw : MethodName := ⟨RX1, "draw", "()I"⟩
def RX2 : String := "RegretPegs$Law"
def TX2 : u_T := fun k => match k with
  | 0 => ("RegretPegs$Law", "use", "I", true)
  | 1 => ("RegretPegs$Law", "size", "I", false)
  | 2 => ("RegretPegs$Law", "code", "[I", true)
  | _ => ("RegretPegs$Law", "values", "[I", true)
def tyX2 : Nat → FieldType := fun k => match k with
  | 0 => .int
  | 1 => .int
  | 2 => .array .int
  | _ => .array .int
abbrev wsX20 : List Cond := u_ws RX2 TX2 4
theorem nmX2 : ∀ a, a < 4 → ∀ b, b < 4 → a ≠ b → (TX2 a).2.1 ≠ (TX2 b).2.1 := by decide +kernel
theorem tyX2_ok : ∀ k, k < 4 → parseFieldDescriptor (TX2 k).2.2.1 = some (tyX2 k) := by decide +kernel
abbrev cX2_init : ByteArray := prog_4_method_1_code
def yX2_init : MethodName := ⟨RX2, "<init>", "(I)V"⟩
abbrev cX2_takeCode : ByteArray := prog_4_method_2_code
def yX2_takeCode : MethodName := ⟨RX2, "takeCode", "([II)V"⟩
abbrev cX2_give : ByteArray := prog_4_method_3_code
def yX2_give : MethodName := ⟨RX2, "give", "(III)I"⟩
abbrev cX2_work : ByteArray := prog_4_method_4_code
def yX2_work : MethodName := ⟨RX2, "work", "(III)I"⟩
abbrev cX2_valueOf : ByteArray := prog_4_method_5_code
def yX2_valueOf : MethodName := ⟨RX2, "valueOf", "(IIII)I"⟩
abbrev cX2_join : ByteArray := prog_4_method_6_code
def yX2_join : MethodName := ⟨RX2, "join", "(III)I"⟩
def RX3 : String := "RegretPegs$Reader"
def TX3 : u_T := fun k => match k with
  | 0 => ("RegretPegs$Reader", "tape", "[B", true)
  | 1 => ("RegretPegs$Reader", "length", "I", false)
  | 2 => ("RegretPegs$Reader", "use", "I", false)
  | 3 => ("RegretPegs$Reader", "at", "I", false)
  | 4 => ("RegretPegs$Reader", "size", "I", false)
  | _ => ("RegretPegs$Reader", "code", "[I", true)
def tyX3 : Nat → FieldType := fun k => match k with
  | 0 => .array .byte
  | 1 => .int
  | 2 => .int
  | 3 => .int
  | 4 => .int
  | _ => .array .int
abbrev wsX30 : List Cond := u_ws RX3 TX3 6
theorem nmX3 : ∀ a, a < 6 → ∀ b, b < 6 → a ≠ b → (TX3 a).2.1 ≠ (TX3 b).2.1 := by decide +kernel
theorem tyX3_ok : ∀ k, k < 6 → parseFieldDescriptor (TX3 k).2.2.1 = some (tyX3 k) := by decide +kernel
abbrev cX3_init : ByteArray := prog_5_method_1_code
def yX3_init : MethodName := ⟨RX3, "<init>", "([B)V"⟩
abbrev cX3_reads : ByteArray := prog_5_method_2_code
def yX3_reads : MethodName := ⟨RX3, "reads", "(II)Z"⟩
abbrev cX3_ahead : ByteArray := prog_5_method_3_code
def yX3_ahead : MethodName := ⟨RX3, "ahead", "()I"⟩
abbrev cX3_emit : ByteArray := prog_5_method_4_code
def yX3_emit : MethodName := ⟨RX3, "emit", "(I)V"⟩
abbrev cX3_readLevel : ByteArray := prog_5_method_5_code
def yX3_readLevel : MethodName := ⟨RX3, "readLevel", "(II)Z"⟩
abbrev cX3_levelOf : ByteArray := prog_5_method_6_code
def yX3_levelOf : MethodName := ⟨RX3, "levelOf", "(I)I"⟩
abbrev cX3_readQ : ByteArray := prog_5_method_7_code
def yX3_readQ : MethodName := ⟨RX3, "readQ", "(I)Z"⟩
abbrev cX3_readNot : ByteArray := prog_5_method_8_code
def yX3_readNot : MethodName := ⟨RX3, "readNot", "(I)Z"⟩
abbrev cX3_readClosed : ByteArray := prog_5_method_9_code
def yX3_readClosed : MethodName := ⟨RX3, "readClosed", "(I)Z"⟩
abbrev cX3_readNumber : ByteArray := prog_5_method_10_code
def yX3_readNumber : MethodName := ⟨RX3, "readNumber", "()V"⟩
abbrev cX3_isDigit : ByteArray := prog_5_method_11_code
def yX3_isDigit : MethodName := ⟨RX3, "isDigit", "(I)Z"⟩
abbrev cX3_nameOf : ByteArray := prog_5_method_12_code
def yX3_nameOf : MethodName := ⟨RX3, "nameOf", "(I)I"⟩
def RX4 : String := "RegretPegs$Sheet"
def TX4 : u_T := fun k => match k with
  | 0 => ("RegretPegs$Sheet", "bits", "I", false)
  | 1 => ("RegretPegs$Sheet", "size", "I", false)
  | _ => ("RegretPegs$Sheet", "numbers", "[I", true)
def tyX4 : Nat → FieldType := fun k => match k with
  | 0 => .int
  | 1 => .int
  | _ => .array .int
abbrev wsX40 : List Cond := u_ws RX4 TX4 3
theorem nmX4 : ∀ a, a < 3 → ∀ b, b < 3 → a ≠ b → (TX4 a).2.1 ≠ (TX4 b).2.1 := by decide +kernel
theorem tyX4_ok : ∀ k, k < 3 → parseFieldDescriptor (TX4 k).2.2.1 = some (tyX4 k) := by decide +kernel
abbrev cX4_init : ByteArray := prog_6_method_1_code
def yX4_init : MethodName := ⟨RX4, "<init>", "()V"⟩
abbrev cX4_lay : ByteArray := prog_6_method_2_code
def yX4_lay : MethodName := ⟨RX4, "lay", "(II)V"⟩
abbrev cX4_write : ByteArray := prog_6_method_3_code
def yX4_write : MethodName := ⟨RX4, "write", "(II)V"⟩
abbrev cX4_hasStretch : ByteArray := prog_6_method_4_code
def yX4_hasStretch : MethodName := ⟨RX4, "hasStretch", "(II)Z"⟩
abbrev cX4_tellsRueOf : ByteArray := prog_6_method_5_code
def yX4_tellsRueOf : MethodName := ⟨RX4, "tellsRueOf", "(LRegretPegs$Ball;)Z"⟩
def RX5 : String := "RegretPegs$Voices"
def TX5 : u_T := fun k => match k with
  | 0 => ("RegretPegs$Voices", "kind", "I", false)
  | 1 => ("RegretPegs$Voices", "n", "I", false)
  | 2 => ("RegretPegs$Voices", "m", "I", false)
  | 3 => ("RegretPegs$Voices", "begun", "I", false)
  | _ => ("RegretPegs$Voices", "bodies", "[I", true)
def tyX5 : Nat → FieldType := fun k => match k with
  | 0 => .int
  | 1 => .int
  | 2 => .int
  | 3 => .int
  | _ => .array .int
abbrev wsX50 : List Cond := u_ws RX5 TX5 5
theorem nmX5 : ∀ a, a < 5 → ∀ b, b < 5 → a ≠ b → (TX5 a).2.1 ≠ (TX5 b).2.1 := by decide +kernel
theorem tyX5_ok : ∀ k, k < 5 → parseFieldDescriptor (TX5 k).2.2.1 = some (tyX5 k) := by decide +kernel
abbrev cX5_init : ByteArray := prog_7_method_1_code
def yX5_init : MethodName := ⟨RX5, "<init>", "()V"⟩
abbrev cX5_hear : ByteArray := prog_7_method_2_code
def yX5_hear : MethodName := ⟨RX5, "hear", "(IIIII)I"⟩
abbrev cX5_speak : ByteArray := prog_7_method_3_code
def yX5_speak : MethodName := ⟨RX5, "speak", "(IIII)I"⟩
abbrev cX5_note : ByteArray := prog_7_method_4_code
def yX5_note : MethodName := ⟨RX5, "note", "(I)V"⟩
abbrev cX5_answer : ByteArray := prog_7_method_5_code
def yX5_answer : MethodName := ⟨RX5, "answer", "(IIII)I"⟩
def RX6 : String := "RegretPegs"
def TX6 : u_T := fun k => match k with
  | 0 => ("RegretPegs", "now", "LRegretPegs$Evening;", true)
  | 1 => ("RegretPegs", "kept", "LRegretPegs$Evening;", true)
  | 2 => ("RegretPegs", "images", "I", false)
  | 3 => ("RegretPegs", "thought", "LRegretPegs$Ball;", true)
  | 4 => ("RegretPegs", "firstDanced", "LRegretPegs$Ball;", true)
  | 5 => ("RegretPegs", "reader", "LRegretPegs$Reader;", true)
  | 6 => ("RegretPegs", "voices", "LRegretPegs$Voices;", true)
  | 7 => ("RegretPegs", "sheets", "[LRegretPegs$Sheet;", true)
  | _ => ("RegretPegs", "errors", "[I", true)
def tyX6 : Nat → FieldType := fun k => match k with
  | 0 => .object "RegretPegs$Evening"
  | 1 => .object "RegretPegs$Evening"
  | 2 => .int
  | 3 => .object "RegretPegs$Ball"
  | 4 => .object "RegretPegs$Ball"
  | 5 => .object "RegretPegs$Reader"
  | 6 => .object "RegretPegs$Voices"
  | 7 => .array (.object "RegretPegs$Sheet")
  | _ => .array .int
abbrev wsX60 : List Cond := u_ws RX6 TX6 9
theorem nmX6 : ∀ a, a < 9 → ∀ b, b < 9 → a ≠ b → (TX6 a).2.1 ≠ (TX6 b).2.1 := by decide +kernel
theorem tyX6_ok : ∀ k, k < 9 → parseFieldDescriptor (TX6 k).2.2.1 = some (tyX6 k) := by decide +kernel
abbrev cX6_init : ByteArray := prog_1_method_1_code
def yX6_init : MethodName := ⟨RX6, "<init>", "()V"⟩
abbrev cX6_guest : ByteArray := prog_1_method_2_code
def yX6_guest : MethodName := ⟨RX6, "guest", "(II)I"⟩
abbrev cX6_ofGuest : ByteArray := prog_1_method_3_code
def yX6_ofGuest : MethodName := ⟨RX6, "ofGuest", "(II)I"⟩
abbrev cX6_change : ByteArray := prog_1_method_4_code
def yX6_change : MethodName := ⟨RX6, "change", "(III)I"⟩
abbrev cX6_peg : ByteArray := prog_1_method_5_code
def yX6_peg : MethodName := ⟨RX6, "peg", "(I)I"⟩
abbrev cX6_hang : ByteArray := prog_1_method_6_code
def yX6_hang : MethodName := ⟨RX6, "hang", "(II)I"⟩
abbrev cX6_become : ByteArray := prog_1_method_7_code
def yX6_become : MethodName := ⟨RX6, "become", "(II)I"⟩
abbrev cX6_as : ByteArray := prog_1_method_8_code
def yX6_as : MethodName := ⟨RX6, "as", "(II)I"⟩
abbrev cX6_feed : ByteArray := prog_1_method_9_code
def yX6_feed : MethodName := ⟨RX6, "feed", "(JI)I"⟩
abbrev cX6_text : ByteArray := prog_1_method_10_code
def yX6_text : MethodName := ⟨RX6, "text", "(I)I"⟩
abbrev cX6_law : ByteArray := prog_1_method_11_code
def yX6_law : MethodName := ⟨RX6, "law", "(IIII)I"⟩
abbrev cX6_dance : ByteArray := prog_1_method_12_code
def yX6_dance : MethodName := ⟨RX6, "dance", "(II)I"⟩
abbrev cX6_hours : ByteArray := prog_1_method_13_code
def yX6_hours : MethodName := ⟨RX6, "hours", "(I)I"⟩
abbrev cX6_loose : ByteArray := prog_1_method_14_code
def yX6_loose : MethodName := ⟨RX6, "loose", "(I)I"⟩
abbrev cX6_then : ByteArray := prog_1_method_15_code
def yX6_then : MethodName := ⟨RX6, "then", "(III)I"⟩
abbrev cX6_last : ByteArray := prog_1_method_16_code
def yX6_last : MethodName := ⟨RX6, "last", "(I)I"⟩
abbrev cX6_partner : ByteArray := prog_1_method_17_code
def yX6_partner : MethodName := ⟨RX6, "partner", "(III)I"⟩
abbrev cX6_dances : ByteArray := prog_1_method_18_code
def yX6_dances : MethodName := ⟨RX6, "dances", "(IIII)I"⟩
abbrev cX6_whoDanced : ByteArray := prog_1_method_19_code
def yX6_whoDanced : MethodName := ⟨RX6, "whoDanced", "(II)I"⟩
abbrev cX6_inOrder : ByteArray := prog_1_method_20_code
def yX6_inOrder : MethodName := ⟨RX6, "inOrder", "()I"⟩
abbrev cX6_wrongs : ByteArray := prog_1_method_21_code
def yX6_wrongs : MethodName := ⟨RX6, "wrongs", "()I"⟩
abbrev cX6_swap : ByteArray := prog_1_method_22_code
def yX6_swap : MethodName := ⟨RX6, "swap", "()I"⟩
abbrev cX6_go : ByteArray := prog_1_method_23_code
def yX6_go : MethodName := ⟨RX6, "go", "(II)I"⟩
abbrev cX6_allRue : ByteArray := prog_1_method_24_code
def yX6_allRue : MethodName := ⟨RX6, "allRue", "(I)I"⟩
abbrev cX6_sorriest : ByteArray := prog_1_method_25_code
def yX6_sorriest : MethodName := ⟨RX6, "sorriest", "(II)I"⟩
abbrev cX6_odds : ByteArray := prog_1_method_26_code
def yX6_odds : MethodName := ⟨RX6, "odds", "(IIII)I"⟩
abbrev cX6_seed : ByteArray := prog_1_method_27_code
def yX6_seed : MethodName := ⟨RX6, "seed", "(I)I"⟩
abbrev cX6_voice : ByteArray := prog_1_method_28_code
def yX6_voice : MethodName := ⟨RX6, "voice", "(III)I"⟩
abbrev cX6_trace : ByteArray := prog_1_method_29_code
def yX6_trace : MethodName := ⟨RX6, "trace", "(I)I"⟩
abbrev cX6_sheet : ByteArray := prog_1_method_30_code
def yX6_sheet : MethodName := ⟨RX6, "sheet", "(III)I"⟩
abbrev cX6_put : ByteArray := prog_1_method_31_code
def yX6_put : MethodName := ⟨RX6, "put", "(III)I"⟩
abbrev cX6_move : ByteArray := prog_1_method_32_code
def yX6_move : MethodName := ⟨RX6, "move", "(IIIII)I"⟩
abbrev cX6_rues : ByteArray := prog_1_method_33_code
def yX6_rues : MethodName := ⟨RX6, "rues", "(I)I"⟩
abbrev cX6_judge : ByteArray := prog_1_method_34_code
def yX6_judge : MethodName := ⟨RX6, "judge", "(I)I"⟩
abbrev cX6_image : ByteArray := prog_1_method_35_code
def yX6_image : MethodName := ⟨RX6, "image", "()I"⟩
abbrev cX6_restore : ByteArray := prog_1_method_36_code
def yX6_restore : MethodName := ⟨RX6, "restore", "()I"⟩
abbrev cX6_tell : ByteArray := prog_1_method_37_code
def yX6_tell : MethodName := ⟨RX6, "tell", "(I)I"⟩
abbrev cX6_check : ByteArray := prog_1_method_38_code
def yX6_check : MethodName := ⟨RX6, "check", "()I"⟩
abbrev cX6_count : ByteArray := prog_1_method_39_code
def yX6_count : MethodName := ⟨RX6, "count", "(I)I"⟩
abbrev cX6_told : ByteArray := prog_1_method_40_code
def yX6_told : MethodName := ⟨RX6, "told", "(I)I"⟩
abbrev cX6_refuse : ByteArray := prog_1_method_41_code
def yX6_refuse : MethodName := ⟨RX6, "refuse", "(I)I"⟩
abbrev cX6_replace : ByteArray := prog_1_method_42_code
def yX6_replace : MethodName := ⟨RX6, "replace", "([IIII)I"⟩
abbrev cX6_isGuest : ByteArray := prog_1_method_43_code
def yX6_isGuest : MethodName := ⟨RX6, "isGuest", "(I)Z"⟩
abbrev cX6_isPeg : ByteArray := prog_1_method_44_code
def yX6_isPeg : MethodName := ⟨RX6, "isPeg", "(I)Z"⟩
abbrev cX6_isSheet : ByteArray := prog_1_method_45_code
def yX6_isSheet : MethodName := ⟨RX6, "isSheet", "(I)Z"⟩
abbrev cX6_isWithin : ByteArray := prog_1_method_46_code
def yX6_isWithin : MethodName := ⟨RX6, "isWithin", "(III)Z"⟩
abbrev cX6_isKindAndNumber : ByteArray := prog_1_method_47_code
def yX6_isKindAndNumber : MethodName := ⟨RX6, "isKindAndNumber", "(I)Z"⟩
abbrev cX6_isUnder : ByteArray := prog_1_method_48_code
def yX6_isUnder : MethodName := ⟨RX6, "isUnder", "(II)Z"⟩
abbrev cX6_useLaw : ByteArray := prog_1_method_49_code
def yX6_useLaw : MethodName := ⟨RX6, "useLaw", "(I)LRegretPegs$Law;"⟩
abbrev cX6_pegHavingDanced : ByteArray := prog_1_method_50_code
def yX6_pegHavingDanced : MethodName := ⟨RX6, "pegHavingDanced", "(III)I"⟩
abbrev cX6_danceThatHelps : ByteArray := prog_1_method_51_code
def yX6_danceThatHelps : MethodName := ⟨RX6, "danceThatHelps", "(LRegretPegs$Ball;III)I"⟩
abbrev cX6_firstOfTwoThatHelp : ByteArray := prog_1_method_52_code
def yX6_firstOfTwoThatHelp : MethodName := ⟨RX6, "firstOfTwoThatHelp", "(III)I"⟩
abbrev cX6_greatestCommon : ByteArray := prog_1_method_53_code
def yX6_greatestCommon : MethodName := ⟨RX6, "greatestCommon", "(II)I"⟩
abbrev cX6_heldRue : ByteArray := prog_1_method_54_code
def yX6_heldRue : MethodName := ⟨RX6, "heldRue", "(I)I"⟩
def RX7 : String := "RegretPegsModel"
def TX7 : u_T := fun k => match k with
  | 0 => ("RegretPegsModel", "now", "[I", true)
  | 1 => ("RegretPegsModel", "kept", "[I", true)
  | 2 => ("RegretPegsModel", "aside", "[I", true)
  | 3 => ("RegretPegsModel", "images", "I", false)
  | 4 => ("RegretPegsModel", "errors", "[I", true)
  | 5 => ("RegretPegsModel", "growing", "[I", true)
  | 6 => ("RegretPegsModel", "NAMED", "[Ljava/lang/String;", true)
  | 7 => ("RegretPegsModel", "at", "I", false)
  | 8 => ("RegretPegsModel", "open", "I", false)
  | 9 => ("RegretPegsModel", "use", "I", false)
  | 10 => ("RegretPegsModel", "isWrong", "Z", false)
  | 11 => ("RegretPegsModel", "code", "[I", true)
  | 12 => ("RegretPegsModel", "coded", "I", false)
  | 13 => ("RegretPegsModel", "named", "[I", true)
  | 14 => ("RegretPegsModel", "pile", "[I", true)
  | 15 => ("RegretPegsModel", "trace", "[I", true)
  | 16 => ("RegretPegsModel", "traced", "I", false)
  | 17 => ("RegretPegsModel", "kind", "I", false)
  | 18 => ("RegretPegsModel", "number", "I", false)
  | 19 => ("RegretPegsModel", "told", "I", false)
  | 20 => ("RegretPegsModel", "widths", "[I", true)
  | 21 => ("RegretPegsModel", "sizes", "[I", true)
  | 22 => ("RegretPegsModel", "numbers", "[I", true)
  | _ => ("RegretPegsModel", "carried", "[I", true)
def tyX7 : Nat → FieldType := fun k => match k with
  | 0 => .array .int
  | 1 => .array .int
  | 2 => .array .int
  | 3 => .int
  | 4 => .array .int
  | 5 => .array .int
  | 6 => .array (.object "java/lang/String")
  | 7 => .int
  | 8 => .int
  | 9 => .int
  | 10 => .boolean
  | 11 => .array .int
  | 12 => .int
  | 13 => .array .int
  | 14 => .array .int
  | 15 => .array .int
  | 16 => .int
  | 17 => .int
  | 18 => .int
  | 19 => .int
  | 20 => .array .int
  | 21 => .array .int
  | 22 => .array .int
  | _ => .array .int
abbrev wsX70 : List Cond := u_ws RX7 TX7 24
theorem nmX7 : ∀ a, a < 24 → ∀ b, b < 24 → a ≠ b → (TX7 a).2.1 ≠ (TX7 b).2.1 := by decide +kernel
theorem tyX7_ok : ∀ k, k < 24 → parseFieldDescriptor (TX7 k).2.2.1 = some (tyX7 k) := by decide +kernel
abbrev cX7_init : ByteArray := prog_9_method_1_code
def yX7_init : MethodName := ⟨RX7, "<init>", "()V"⟩
abbrev cX7_finding : ByteArray := prog_9_method_2_code
def yX7_finding : MethodName := ⟨RX7, "finding", "(I)I"⟩
abbrev cX7_within : ByteArray := prog_9_method_3_code
def yX7_within : MethodName := ⟨RX7, "within", "(III)Z"⟩
abbrev cX7_held : ByteArray := prog_9_method_4_code
def yX7_held : MethodName := ⟨RX7, "held", "(III)I"⟩
abbrev cX7_copy : ByteArray := prog_9_method_5_code
def yX7_copy : MethodName := ⟨RX7, "copy", "([I[I)V"⟩
abbrev cX7_turn : ByteArray := prog_9_method_6_code
def yX7_turn : MethodName := ⟨RX7, "turn", "(II)I"⟩
abbrev cX7_putBack : ByteArray := prog_9_method_7_code
def yX7_putBack : MethodName := ⟨RX7, "putBack", "(I)I"⟩
abbrev cX7_feed : ByteArray := prog_9_method_8_code
def yX7_feed : MethodName := ⟨RX7, "feed", "(JI)I"⟩
abbrev cX7_here : ByteArray := prog_9_method_9_code
def yX7_here : MethodName := ⟨RX7, "here", "()I"⟩
abbrev cX7_takes : ByteArray := prog_9_method_10_code
def yX7_takes : MethodName := ⟨RX7, "takes", "(I)Z"⟩
abbrev cX7_codes : ByteArray := prog_9_method_11_code
def yX7_codes : MethodName := ⟨RX7, "codes", "(I)V"⟩
abbrev cX7_either : ByteArray := prog_9_method_12_code
def yX7_either : MethodName := ⟨RX7, "either", "()V"⟩
abbrev cX7_both : ByteArray := prog_9_method_13_code
def yX7_both : MethodName := ⟨RX7, "both", "()V"⟩
abbrev cX7_compared : ByteArray := prog_9_method_14_code
def yX7_compared : MethodName := ⟨RX7, "compared", "()V"⟩
abbrev cX7_sum : ByteArray := prog_9_method_15_code
def yX7_sum : MethodName := ⟨RX7, "sum", "()V"⟩
abbrev cX7_product : ByteArray := prog_9_method_16_code
def yX7_product : MethodName := ⟨RX7, "product", "()V"⟩
abbrev cX7_nameOf : ByteArray := prog_9_method_17_code
def yX7_nameOf : MethodName := ⟨RX7, "nameOf", "(I)I"⟩
abbrev cX7_one : ByteArray := prog_9_method_18_code
def yX7_one : MethodName := ⟨RX7, "one", "()V"⟩
abbrev cX7_text : ByteArray := prog_9_method_19_code
def yX7_text : MethodName := ⟨RX7, "text", "(I)I"⟩
abbrev cX7_done : ByteArray := prog_9_method_20_code
def yX7_done : MethodName := ⟨RX7, "done", "(III)I"⟩
abbrev cX7_worked : ByteArray := prog_9_method_21_code
def yX7_worked : MethodName := ⟨RX7, "worked", "(I)I"⟩
abbrev cX7_hasText : ByteArray := prog_9_method_22_code
def yX7_hasText : MethodName := ⟨RX7, "hasText", "(I)Z"⟩
abbrev cX7_given : ByteArray := prog_9_method_23_code
def yX7_given : MethodName := ⟨RX7, "given", "(IIII)I"⟩
abbrev cX7_law : ByteArray := prog_9_method_24_code
def yX7_law : MethodName := ⟨RX7, "law", "(IIII)I"⟩
abbrev cX7_isGuest : ByteArray := prog_9_method_25_code
def yX7_isGuest : MethodName := ⟨RX7, "isGuest", "(I)Z"⟩
abbrev cX7_areTwo : ByteArray := prog_9_method_26_code
def yX7_areTwo : MethodName := ⟨RX7, "areTwo", "(II)Z"⟩
abbrev cX7_isRue : ByteArray := prog_9_method_27_code
def yX7_isRue : MethodName := ⟨RX7, "isRue", "(I)Z"⟩
abbrev cX7_guestAt : ByteArray := prog_9_method_28_code
def yX7_guestAt : MethodName := ⟨RX7, "guestAt", "(II)I"⟩
abbrev cX7_guestIs : ByteArray := prog_9_method_29_code
def yX7_guestIs : MethodName := ⟨RX7, "guestIs", "(II)I"⟩
abbrev cX7_rue : ByteArray := prog_9_method_30_code
def yX7_rue : MethodName := ⟨RX7, "rue", "(I)I"⟩
abbrev cX7_isKindM : ByteArray := prog_9_method_31_code
def yX7_isKindM : MethodName := ⟨RX7, "isKindM", "(I)Z"⟩
abbrev cX7_comes : ByteArray := prog_9_method_32_code
def yX7_comes : MethodName := ⟨RX7, "comes", "(II)I"⟩
abbrev cX7_guest : ByteArray := prog_9_method_33_code
def yX7_guest : MethodName := ⟨RX7, "guest", "(II)I"⟩
abbrev cX7_above : ByteArray := prog_9_method_34_code
def yX7_above : MethodName := ⟨RX7, "above", "(I)I"⟩
abbrev cX7_isUnder : ByteArray := prog_9_method_35_code
def yX7_isUnder : MethodName := ⟨RX7, "isUnder", "(II)Z"⟩
abbrev cX7_pegOf : ByteArray := prog_9_method_36_code
def yX7_pegOf : MethodName := ⟨RX7, "pegOf", "(I)I"⟩
abbrev cX7_growsNow : ByteArray := prog_9_method_37_code
def yX7_growsNow : MethodName := ⟨RX7, "growsNow", "(I)I"⟩
abbrev cX7_ofGuest : ByteArray := prog_9_method_38_code
def yX7_ofGuest : MethodName := ⟨RX7, "ofGuest", "(II)I"⟩
abbrev cX7_change : ByteArray := prog_9_method_39_code
def yX7_change : MethodName := ⟨RX7, "change", "(III)I"⟩
abbrev cX7_peg : ByteArray := prog_9_method_40_code
def yX7_peg : MethodName := ⟨RX7, "peg", "(I)I"⟩
abbrev cX7_hangs : ByteArray := prog_9_method_41_code
def yX7_hangs : MethodName := ⟨RX7, "hangs", "(II)I"⟩
abbrev cX7_hang : ByteArray := prog_9_method_42_code
def yX7_hang : MethodName := ⟨RX7, "hang", "(II)I"⟩
abbrev cX7_become : ByteArray := prog_9_method_43_code
def yX7_become : MethodName := ⟨RX7, "become", "(II)I"⟩
abbrev cX7_as : ByteArray := prog_9_method_44_code
def yX7_as : MethodName := ⟨RX7, "as", "(II)I"⟩
abbrev cX7_hasDanced : ByteArray := prog_9_method_45_code
def yX7_hasDanced : MethodName := ⟨RX7, "hasDanced", "(II)V"⟩
abbrev cX7_dancing : ByteArray := prog_9_method_46_code
def yX7_dancing : MethodName := ⟨RX7, "dancing", "(II)V"⟩
abbrev cX7_dance : ByteArray := prog_9_method_47_code
def yX7_dance : MethodName := ⟨RX7, "dance", "(II)I"⟩
abbrev cX7_isWrongAt : ByteArray := prog_9_method_48_code
def yX7_isWrongAt : MethodName := ⟨RX7, "isWrongAt", "(I)Z"⟩
abbrev cX7_hour : ByteArray := prog_9_method_49_code
def yX7_hour : MethodName := ⟨RX7, "hour", "()V"⟩
abbrev cX7_hoursGo : ByteArray := prog_9_method_50_code
def yX7_hoursGo : MethodName := ⟨RX7, "hoursGo", "(I)V"⟩
abbrev cX7_sumOf : ByteArray := prog_9_method_51_code
def yX7_sumOf : MethodName := ⟨RX7, "sumOf", "(I)I"⟩
abbrev cX7_hours : ByteArray := prog_9_method_52_code
def yX7_hours : MethodName := ⟨RX7, "hours", "(I)I"⟩
abbrev cX7_drawn : ByteArray := prog_9_method_53_code
def yX7_drawn : MethodName := ⟨RX7, "drawn", "()I"⟩
abbrev cX7_dancesByDraws : ByteArray := prog_9_method_54_code
def yX7_dancesByDraws : MethodName := ⟨RX7, "dancesByDraws", "()V"⟩
abbrev cX7_loose : ByteArray := prog_9_method_55_code
def yX7_loose : MethodName := ⟨RX7, "loose", "(I)I"⟩
abbrev cX7_isBehind : ByteArray := prog_9_method_56_code
def yX7_isBehind : MethodName := ⟨RX7, "isBehind", "(I)Z"⟩
abbrev cX7_isSoon : ByteArray := prog_9_method_57_code
def yX7_isSoon : MethodName := ⟨RX7, "isSoon", "(I)Z"⟩
abbrev cX7_then : ByteArray := prog_9_method_58_code
def yX7_then : MethodName := ⟨RX7, "then", "(III)I"⟩
abbrev cX7_last : ByteArray := prog_9_method_59_code
def yX7_last : MethodName := ⟨RX7, "last", "(I)I"⟩
abbrev cX7_pegWith : ByteArray := prog_9_method_60_code
def yX7_pegWith : MethodName := ⟨RX7, "pegWith", "(III)I"⟩
abbrev cX7_partner : ByteArray := prog_9_method_61_code
def yX7_partner : MethodName := ⟨RX7, "partner", "(III)I"⟩
abbrev cX7_hangsBy : ByteArray := prog_9_method_62_code
def yX7_hangsBy : MethodName := ⟨RX7, "hangsBy", "(IIIII)Z"⟩
abbrev cX7_isPair : ByteArray := prog_9_method_63_code
def yX7_isPair : MethodName := ⟨RX7, "isPair", "(I)Z"⟩
abbrev cX7_dances : ByteArray := prog_9_method_64_code
def yX7_dances : MethodName := ⟨RX7, "dances", "(IIII)I"⟩
abbrev cX7_isSoDanced : ByteArray := prog_9_method_65_code
def yX7_isSoDanced : MethodName := ⟨RX7, "isSoDanced", "(III)Z"⟩
abbrev cX7_whoDanced : ByteArray := prog_9_method_66_code
def yX7_whoDanced : MethodName := ⟨RX7, "whoDanced", "(II)I"⟩
abbrev cX7_isRight : ByteArray := prog_9_method_67_code
def yX7_isRight : MethodName := ⟨RX7, "isRight", "()Z"⟩
abbrev cX7_inOrder : ByteArray := prog_9_method_68_code
def yX7_inOrder : MethodName := ⟨RX7, "inOrder", "()I"⟩
abbrev cX7_wrongs : ByteArray := prog_9_method_69_code
def yX7_wrongs : MethodName := ⟨RX7, "wrongs", "()I"⟩
abbrev cX7_swap : ByteArray := prog_9_method_70_code
def yX7_swap : MethodName := ⟨RX7, "swap", "()I"⟩
abbrev cX7_go : ByteArray := prog_9_method_71_code
def yX7_go : MethodName := ⟨RX7, "go", "(II)I"⟩
abbrev cX7_allRue : ByteArray := prog_9_method_72_code
def yX7_allRue : MethodName := ⟨RX7, "allRue", "(I)I"⟩
abbrev cX7_sorriest : ByteArray := prog_9_method_73_code
def yX7_sorriest : MethodName := ⟨RX7, "sorriest", "(II)I"⟩
abbrev cX7_odds : ByteArray := prog_9_method_74_code
def yX7_odds : MethodName := ⟨RX7, "odds", "(IIII)I"⟩
abbrev cX7_seed : ByteArray := prog_9_method_75_code
def yX7_seed : MethodName := ⟨RX7, "seed", "(I)I"⟩
abbrev cX7_ran : ByteArray := prog_9_method_76_code
def yX7_ran : MethodName := ⟨RX7, "ran", "(I)V"⟩
abbrev cX7_dancesOf : ByteArray := prog_9_method_77_code
def yX7_dancesOf : MethodName := ⟨RX7, "dancesOf", "(I)I"⟩
abbrev cX7_sighsOf : ByteArray := prog_9_method_78_code
def yX7_sighsOf : MethodName := ⟨RX7, "sighsOf", "(I)I"⟩
abbrev cX7_looksOf : ByteArray := prog_9_method_79_code
def yX7_looksOf : MethodName := ⟨RX7, "looksOf", "(I)I"⟩
abbrev cX7_plainTells : ByteArray := prog_9_method_80_code
def yX7_plainTells : MethodName := ⟨RX7, "plainTells", "(I)I"⟩
abbrev cX7_tellsOf : ByteArray := prog_9_method_81_code
def yX7_tellsOf : MethodName := ⟨RX7, "tellsOf", "(I)I"⟩
abbrev cX7_voice : ByteArray := prog_9_method_82_code
def yX7_voice : MethodName := ⟨RX7, "voice", "(III)I"⟩
abbrev cX7_trace : ByteArray := prog_9_method_83_code
def yX7_trace : MethodName := ⟨RX7, "trace", "(I)I"⟩
abbrev cX7_isSheet : ByteArray := prog_9_method_84_code
def yX7_isSheet : MethodName := ⟨RX7, "isSheet", "(I)Z"⟩
abbrev cX7_sheet : ByteArray := prog_9_method_85_code
def yX7_sheet : MethodName := ⟨RX7, "sheet", "(III)I"⟩
abbrev cX7_put : ByteArray := prog_9_method_86_code
def yX7_put : MethodName := ⟨RX7, "put", "(III)I"⟩
abbrev cX7_move : ByteArray := prog_9_method_87_code
def yX7_move : MethodName := ⟨RX7, "move", "(IIIII)I"⟩
abbrev cX7_rues : ByteArray := prog_9_method_88_code
def yX7_rues : MethodName := ⟨RX7, "rues", "(I)I"⟩
abbrev cX7_judge : ByteArray := prog_9_method_89_code
def yX7_judge : MethodName := ⟨RX7, "judge", "(I)I"⟩
abbrev cX7_image : ByteArray := prog_9_method_90_code
def yX7_image : MethodName := ⟨RX7, "image", "()I"⟩
abbrev cX7_restore : ByteArray := prog_9_method_91_code
def yX7_restore : MethodName := ⟨RX7, "restore", "()I"⟩
abbrev cX7_tell : ByteArray := prog_9_method_92_code
def yX7_tell : MethodName := ⟨RX7, "tell", "(I)I"⟩
abbrev cX7_check : ByteArray := prog_9_method_93_code
def yX7_check : MethodName := ⟨RX7, "check", "()I"⟩
abbrev cX7_idleOnes : ByteArray := prog_9_method_94_code
def yX7_idleOnes : MethodName := ⟨RX7, "idleOnes", "()I"⟩
abbrev cX7_count : ByteArray := prog_9_method_95_code
def yX7_count : MethodName := ⟨RX7, "count", "(I)I"⟩
abbrev cX7_told : ByteArray := prog_9_method_96_code
def yX7_told : MethodName := ⟨RX7, "told", "(I)I"⟩
def RJ9 : String := "java/lang/Math"
def TJ9 : u_T := fun k => match k with
  | _ => ("", "", "", false)
def tyJ9 : Nat → FieldType := fun k => match k with
  | _ => .int
abbrev wsJ90 : List Cond := u_ws RJ9 TJ9 0
theorem nmJ9 : ∀ a, a < 0 → ∀ b, b < 0 → a ≠ b → (TJ9 a).2.1 ≠ (TJ9 b).2.1 := by decide +kernel
theorem tyJ9_ok : ∀ k, k < 0 → parseFieldDescriptor (TJ9 k).2.2.1 = some (tyJ9 k) := by decide +kernel
abbrev cJ9_max_7cf53 : ByteArray := prog_10_method_65_code
def yJ9_max_7cf53 : MethodName := ⟨RJ9, "max", "(II)I"⟩
abbrev cJ9_min_7cf53 : ByteArray := prog_10_method_69_code
def yJ9_min_7cf53 : MethodName := ⟨RJ9, "min", "(II)I"⟩
def RJ0 : String := "java/lang/String"
def TJ0 : u_T := fun k => match k with
  | _ => ("", "", "", false)
def tyJ0 : Nat → FieldType := fun k => match k with
  | _ => .int
abbrev wsJ00 : List Cond := u_ws RJ0 TJ0 0
theorem nmJ0 : ∀ a, a < 0 → ∀ b, b < 0 → a ≠ b → (TJ0 a).2.1 ≠ (TJ0 b).2.1 := by decide +kernel
theorem tyJ0_ok : ∀ k, k < 0 → parseFieldDescriptor (TJ0 k).2.2.1 = some (tyJ0 k) := by decide +kernel
abbrev cJ0_length_8abf5 : ByteArray := prog_11_method_54_code
def yJ0_length_8abf5 : MethodName := ⟨RJ0, "length", "()I"⟩
abbrev cJ0_charAt_5068e : ByteArray := prog_11_method_56_code
def yJ0_charAt_5068e : MethodName := ⟨RJ0, "charAt", "(I)C"⟩
abbrev cJ0_coder_7d493 : ByteArray := prog_11_method_152_code
def yJ0_coder_7d493 : MethodName := ⟨RJ0, "coder", "()B"⟩
abbrev cJ0_isLatin1_aae02 : ByteArray := prog_11_method_154_code
def yJ0_isLatin1_aae02 : MethodName := ⟨RJ0, "isLatin1", "()Z"⟩
abbrev cJ0_checkIndex_df160 : ByteArray := prog_11_method_155_code
def yJ0_checkIndex_df160 : MethodName := ⟨RJ0, "checkIndex", "(II)V"⟩
def RJ1 : String := "java/lang/StringLatin1"
def TJ1 : u_T := fun k => match k with
  | _ => ("", "", "", false)
def tyJ1 : Nat → FieldType := fun k => match k with
  | _ => .int
abbrev wsJ10 : List Cond := u_ws RJ1 TJ1 0
theorem nmJ1 : ∀ a, a < 0 → ∀ b, b < 0 → a ≠ b → (TJ1 a).2.1 ≠ (TJ1 b).2.1 := by decide +kernel
theorem tyJ1_ok : ∀ k, k < 0 → parseFieldDescriptor (TJ1 k).2.2.1 = some (tyJ1 k) := by decide +kernel
abbrev cJ1_charAt_3b067 : ByteArray := prog_12_method_2_code
def yJ1_charAt_3b067 : MethodName := ⟨RJ1, "charAt", "([BI)C"⟩
def RJ2 : String := "java/lang/StringUTF16"
def TJ2 : u_T := fun k => match k with
  | _ => ("", "", "", false)
def tyJ2 : Nat → FieldType := fun k => match k with
  | _ => .int
abbrev wsJ20 : List Cond := u_ws RJ2 TJ2 0
theorem nmJ2 : ∀ a, a < 0 → ∀ b, b < 0 → a ≠ b → (TJ2 a).2.1 ≠ (TJ2 b).2.1 := by decide +kernel
theorem tyJ2_ok : ∀ k, k < 0 → parseFieldDescriptor (TJ2 k).2.2.1 = some (tyJ2 k) := by decide +kernel
abbrev cJ2_getChar_3b067 : ByteArray := prog_13_method_5_code
def yJ2_getChar_3b067 : MethodName := ⟨RJ2, "getChar", "([BI)C"⟩
abbrev cJ2_length_9d52b : ByteArray := prog_13_method_6_code
def yJ2_length_9d52b : MethodName := ⟨RJ2, "length", "([B)I"⟩
abbrev cJ2_charAt_3b067 : ByteArray := prog_13_method_83_code
def yJ2_charAt_3b067 : MethodName := ⟨RJ2, "charAt", "([BI)C"⟩
abbrev cJ2_checkIndex_2214a : ByteArray := prog_13_method_91_code
def yJ2_checkIndex_2214a : MethodName := ⟨RJ2, "checkIndex", "(I[B)V"⟩
def RJ10 : String := "java/lang/System"
def TJ10 : u_T := fun k => match k with
  | _ => ("", "", "", false)
def tyJ10 : Nat → FieldType := fun k => match k with
  | _ => .int
abbrev wsJ100 : List Cond := u_ws RJ10 TJ10 0
theorem nmJ10 : ∀ a, a < 0 → ∀ b, b < 0 → a ≠ b → (TJ10 a).2.1 ≠ (TJ10 b).2.1 := by decide +kernel
theorem tyJ10_ok : ∀ k, k < 0 → parseFieldDescriptor (TJ10 k).2.2.1 = some (tyJ10 k) := by decide +kernel
def RJ3 : String := "jdk/internal/util/Preconditions"
def TJ3 : u_T := fun k => match k with
  | _ => ("", "", "", false)
def tyJ3 : Nat → FieldType := fun k => match k with
  | _ => .int
abbrev wsJ30 : List Cond := u_ws RJ3 TJ3 0
theorem nmJ3 : ∀ a, a < 0 → ∀ b, b < 0 → a ≠ b → (TJ3 a).2.1 ≠ (TJ3 b).2.1 := by decide +kernel
theorem tyJ3_ok : ∀ k, k < 0 → parseFieldDescriptor (TJ3 k).2.2.1 = some (tyJ3 k) := by decide +kernel
abbrev cJ3_checkIndex_8e157 : ByteArray := prog_15_method_11_code
def yJ3_checkIndex_8e157 : MethodName := ⟨RJ3, "checkIndex", "(IILjava/util/function/BiFunction;)I"⟩
def RL : String := "RegretPegsLaw"
abbrev cL_law : ByteArray := code
def yL_law : MethodName := ⟨RL, "law", "([I)Z"⟩
abbrev vwCl : List vw_C := [(RX0, TX0, 7), (RX1, TX1, 9), (RX2, TX2, 4), (RX3, TX3, 6), (RX4, TX4, 3), (RX5, TX5, 5), (RX6, TX6, 9), (RX7, TX7, 24)]
/-! ===== END names ===== -/
end
section
/-! WORDS: those of the tables that a frame carries along; each by its place -/
def rp_W0 : List Cond := lw_tbl.filter goodWord
theorem rp_W0_good : GoodIn rp_W0 rp_W0 := fun w h => ⟨h, good_of_word (List.mem_filter.mp h).2⟩
theorem rp_W0_in : ∀ w ∈ rp_W0, w ∈ lw_tbl := fun _ h => (List.mem_filter.mp h).1
theorem rp_t1 {w : Cond} {i : Nat} (h : tables_1_1[i]? = some w) (g : goodWord w = true) : w ∈ rp_W0 := List.mem_filter.mpr ⟨List.mem_append_right _ (List.mem_append_left _ (List.mem_of_getElem? h)), g⟩
theorem rp_t2 {w : Cond} {i : Nat} (h : tables_1_2[i]? = some w) (g : goodWord w = true) : w ∈ rp_W0 := List.mem_filter.mpr ⟨List.mem_append_right _ (List.mem_append_right _ (List.mem_append_left _ (List.mem_of_getElem? h))), g⟩
theorem rp_t3 {w : Cond} {i : Nat} (h : tables_1_3[i]? = some w) (g : goodWord w = true) : w ∈ rp_W0 := List.mem_filter.mpr ⟨List.mem_append_right _ (List.mem_append_right _ (List.mem_append_right _ (List.mem_append_left _ (List.mem_of_getElem? h)))), g⟩
theorem rp_t4 {w : Cond} {i : Nat} (h : tables_1_4[i]? = some w) (g : goodWord w = true) : w ∈ rp_W0 := List.mem_filter.mpr ⟨List.mem_append_right _ (List.mem_append_right _ (List.mem_append_right _ (List.mem_append_right _ (List.mem_append_left _ (List.mem_of_getElem? h))))), g⟩
theorem rp_t5 {w : Cond} {i : Nat} (h : tables_1_5[i]? = some w) (g : goodWord w = true) : w ∈ rp_W0 := List.mem_filter.mpr ⟨List.mem_append_right _ (List.mem_append_right _ (List.mem_append_right _ (List.mem_append_right _ (List.mem_append_right _ (List.mem_of_getElem? h))))), g⟩
theorem rp_ts {w : Cond} (q : MethodName × Nat) (h : q ∈ lw_privs) (e : Cond.selects q.1.cls q.1 q.1 = w) (g : goodWord w = true) : w ∈ rp_W0 := List.mem_filter.mpr ⟨List.mem_append_left _ (e ▸ List.mem_map.mpr ⟨q, h, rfl⟩), g⟩
theorem wd_0 : Cond.initialized "RegretPegsLaw" ∈ rp_W0 := rp_t1 (i := 0) rfl rfl
theorem wd_1 : Cond.initialized "RegretPegs" ∈ rp_W0 := rp_t1 (i := 1) rfl rfl
theorem wd_2 : Cond.initialized "RegretPegs$Evening" ∈ rp_W0 := rp_t1 (i := 2) rfl rfl
theorem wd_3 : Cond.initialized "RegretPegs$Ball" ∈ rp_W0 := rp_t1 (i := 3) rfl rfl
theorem wd_4 : Cond.initialized "RegretPegs$Law" ∈ rp_W0 := rp_t1 (i := 4) rfl rfl
theorem wd_5 : Cond.initialized "RegretPegs$Reader" ∈ rp_W0 := rp_t1 (i := 5) rfl rfl
theorem wd_6 : Cond.initialized "RegretPegs$Voices" ∈ rp_W0 := rp_t1 (i := 6) rfl rfl
theorem wd_7 : Cond.initialized "RegretPegs$Sheet" ∈ rp_W0 := rp_t1 (i := 7) rfl rfl
theorem wd_8 : Cond.initialized "RegretPegsModel" ∈ rp_W0 := rp_t1 (i := 8) rfl rfl
theorem wd_9 : Cond.initialized "java/lang/Math" ∈ rp_W0 := rp_t1 (i := 9) rfl rfl
theorem wd_10 : Cond.initialized "java/lang/System" ∈ rp_W0 := rp_t1 (i := 10) rfl rfl
theorem wd_11 : Cond.initialized "java/lang/String" ∈ rp_W0 := rp_t1 (i := 11) rfl rfl
theorem wd_12 : Cond.initialized "java/lang/StringLatin1" ∈ rp_W0 := rp_t1 (i := 12) rfl rfl
theorem wd_13 : Cond.initialized "jdk/internal/util/Preconditions" ∈ rp_W0 := rp_t1 (i := 13) rfl rfl
theorem wd_14 : Cond.initialized "java/lang/StringUTF16" ∈ rp_W0 := rp_t1 (i := 14) rfl rfl
theorem wd_15 : Cond.classLink "RegretPegsLaw" 7 "RegretPegs" ∈ rp_W0 := rp_t1 (i := 15) rfl rfl
theorem wd_16 : Cond.instantiable "RegretPegs" 9 ∈ rp_W0 := rp_t1 (i := 16) rfl rfl
theorem wd_17 : Cond.methodLink "RegretPegsLaw" 9 yX6_init ∈ rp_W0 := rp_t1 (i := 17) rfl rfl
theorem wd_18 : Cond.instanceMethod yX6_init ∈ rp_W0 := rp_t1 (i := 18) rfl rfl
theorem wd_19 : Cond.code yX6_init prog_1_method_1_code 1 none ∈ rp_W0 := rp_t1 (i := 19) rfl rfl
theorem wd_20 : Cond.methodLink "RegretPegs" 1 ⟨"java/lang/Object", "<init>", "()V"⟩ ∈ rp_W0 := rp_t1 (i := 20) rfl rfl
theorem wd_21 : Cond.instanceMethod ⟨"java/lang/Object", "<init>", "()V"⟩ ∈ rp_W0 := rp_t1 (i := 21) rfl rfl
theorem wd_22 : Cond.code ⟨"java/lang/Object", "<init>", "()V"⟩ object_method_1_code 1 none ∈ rp_W0 := rp_t1 (i := 22) rfl rfl
theorem wd_23 : Cond.classLink "RegretPegs" 7 "RegretPegs$Evening" ∈ rp_W0 := rp_t1 (i := 23) rfl rfl
theorem wd_24 : Cond.instantiable "RegretPegs$Evening" 9 ∈ rp_W0 := rp_t1 (i := 24) rfl rfl
theorem wd_26 : Cond.instanceMethod yX1_init ∈ rp_W0 := rp_t1 (i := 26) rfl rfl
theorem wd_27 : Cond.code yX1_init prog_3_method_1_code 1 none ∈ rp_W0 := rp_t1 (i := 27) rfl rfl
theorem wd_28 : Cond.methodLink "RegretPegs$Evening" 3 ⟨"java/lang/Object", "<init>", "()V"⟩ ∈ rp_W0 := rp_t1 (i := 28) rfl rfl
theorem wd_29 : Cond.classLink "RegretPegs$Evening" 9 "RegretPegs$Ball" ∈ rp_W0 := rp_t1 (i := 29) rfl rfl
theorem wd_30 : Cond.instantiable "RegretPegs$Ball" 7 ∈ rp_W0 := rp_t1 (i := 30) rfl rfl
theorem wd_32 : Cond.instanceMethod yX0_init ∈ rp_W0 := rp_t1 (i := 32) rfl rfl
theorem wd_33 : Cond.code yX0_init prog_2_method_1_code 1 none ∈ rp_W0 := rp_t1 (i := 33) rfl rfl
theorem wd_34 : Cond.methodLink "RegretPegs$Ball" 3 ⟨"java/lang/Object", "<init>", "()V"⟩ ∈ rp_W0 := rp_t1 (i := 34) rfl rfl
theorem wd_35 : Cond.fieldLink "RegretPegs$Ball" 9 "RegretPegs$Ball" "size" "I" ∈ rp_W0 := rp_t1 (i := 35) rfl rfl
theorem wd_36 : Cond.fieldLink "RegretPegs" 79 "RegretPegs$Ball" "size" "I" ∈ rp_W0 := rp_t1 (i := 36) rfl rfl
theorem wd_37 : Cond.fieldLink "RegretPegs$Evening" 71 "RegretPegs$Ball" "size" "I" ∈ rp_W0 := rp_t1 (i := 37) rfl rfl
theorem wd_38 : Cond.fieldLink "RegretPegs$Sheet" 22 "RegretPegs$Ball" "size" "I" ∈ rp_W0 := rp_t1 (i := 38) rfl rfl
theorem wd_39 : Cond.fieldLink "RegretPegs$Ball" 15 "RegretPegs$Ball" "kind" "[I" ∈ rp_W0 := rp_t1 (i := 39) rfl rfl
theorem wd_40 : Cond.fieldLink "RegretPegs" 89 "RegretPegs$Ball" "kind" "[I" ∈ rp_W0 := rp_t1 (i := 40) rfl rfl
theorem wd_41 : Cond.fieldLink "RegretPegs$Ball" 19 "RegretPegs$Ball" "m" "[I" ∈ rp_W0 := rp_t1 (i := 41) rfl rfl
theorem wd_42 : Cond.fieldLink "RegretPegs" 92 "RegretPegs$Ball" "m" "[I" ∈ rp_W0 := rp_t1 (i := 42) rfl rfl
theorem wd_43 : Cond.fieldLink "RegretPegs$Ball" 22 "RegretPegs$Ball" "rue" "[I" ∈ rp_W0 := rp_t1 (i := 43) rfl rfl
theorem wd_44 : Cond.fieldLink "RegretPegs" 95 "RegretPegs$Ball" "rue" "[I" ∈ rp_W0 := rp_t1 (i := 44) rfl rfl
theorem wd_45 : Cond.fieldLink "RegretPegs$Sheet" 25 "RegretPegs$Ball" "rue" "[I" ∈ rp_W0 := rp_t1 (i := 45) rfl rfl
theorem wd_46 : Cond.fieldLink "RegretPegs$Ball" 25 "RegretPegs$Ball" "danced" "[I" ∈ rp_W0 := rp_t1 (i := 46) rfl rfl
theorem wd_47 : Cond.fieldLink "RegretPegs" 98 "RegretPegs$Ball" "danced" "[I" ∈ rp_W0 := rp_t1 (i := 47) rfl rfl
theorem wd_48 : Cond.fieldLink "RegretPegs$Ball" 28 "RegretPegs$Ball" "idle" "[I" ∈ rp_W0 := rp_t1 (i := 48) rfl rfl
theorem wd_49 : Cond.fieldLink "RegretPegs" 101 "RegretPegs$Ball" "idle" "[I" ∈ rp_W0 := rp_t1 (i := 49) rfl rfl
theorem wd_50 : Cond.fieldLink "RegretPegs$Ball" 31 "RegretPegs$Ball" "order" "[I" ∈ rp_W0 := rp_t1 (i := 50) rfl rfl
theorem wd_51 : Cond.fieldLink "RegretPegs" 117 "RegretPegs$Ball" "order" "[I" ∈ rp_W0 := rp_t1 (i := 51) rfl rfl
theorem wd_52 : Cond.lays "RegretPegs$Ball" "RegretPegs$Ball" "size" "I" ∈ rp_W0 := rp_t1 (i := 52) rfl rfl
theorem wd_54 : Cond.laysFinal "RegretPegs$Ball" "RegretPegs$Ball" "kind" "[I" ∈ rp_W0 := rp_t1 (i := 54) rfl rfl
theorem wd_56 : Cond.laysFinal "RegretPegs$Ball" "RegretPegs$Ball" "m" "[I" ∈ rp_W0 := rp_t1 (i := 56) rfl rfl
theorem wd_58 : Cond.laysFinal "RegretPegs$Ball" "RegretPegs$Ball" "rue" "[I" ∈ rp_W0 := rp_t1 (i := 58) rfl rfl
theorem wd_60 : Cond.laysFinal "RegretPegs$Ball" "RegretPegs$Ball" "danced" "[I" ∈ rp_W0 := rp_t1 (i := 60) rfl rfl
theorem wd_62 : Cond.laysFinal "RegretPegs$Ball" "RegretPegs$Ball" "idle" "[I" ∈ rp_W0 := rp_t1 (i := 62) rfl rfl
theorem wd_64 : Cond.laysFinal "RegretPegs$Ball" "RegretPegs$Ball" "order" "[I" ∈ rp_W0 := rp_t1 (i := 64) rfl rfl
theorem wd_67 : Cond.arrayClass .int ∈ rp_W0 := rp_t1 (i := 67) rfl rfl
theorem wd_68 : Cond.classLink "RegretPegs$Evening" 18 "RegretPegs$Law" ∈ rp_W0 := rp_t1 (i := 68) rfl rfl
theorem wd_69 : Cond.instantiable "RegretPegs$Law" 4 ∈ rp_W0 := rp_t1 (i := 69) rfl rfl
theorem wd_70 : Cond.methodLink "RegretPegs$Evening" 20 yX2_init ∈ rp_W0 := rp_t1 (i := 70) rfl rfl
theorem wd_71 : Cond.instanceMethod yX2_init ∈ rp_W0 := rp_t1 (i := 71) rfl rfl
theorem wd_72 : Cond.code yX2_init prog_4_method_1_code 2 none ∈ rp_W0 := rp_t1 (i := 72) rfl rfl
theorem wd_73 : Cond.methodLink "RegretPegs$Law" 3 ⟨"java/lang/Object", "<init>", "()V"⟩ ∈ rp_W0 := rp_t1 (i := 73) rfl rfl
theorem wd_74 : Cond.fieldLink "RegretPegs$Law" 22 "RegretPegs$Law" "use" "I" ∈ rp_W0 := rp_t1 (i := 74) rfl rfl
theorem wd_75 : Cond.fieldLink "RegretPegs$Law" 9 "RegretPegs$Law" "size" "I" ∈ rp_W0 := rp_t1 (i := 75) rfl rfl
theorem wd_76 : Cond.fieldLink "RegretPegs$Evening" 58 "RegretPegs$Law" "size" "I" ∈ rp_W0 := rp_t1 (i := 76) rfl rfl
theorem wd_77 : Cond.fieldLink "RegretPegs$Law" 15 "RegretPegs$Law" "code" "[I" ∈ rp_W0 := rp_t1 (i := 77) rfl rfl
theorem wd_78 : Cond.fieldLink "RegretPegs$Evening" 55 "RegretPegs$Law" "code" "[I" ∈ rp_W0 := rp_t1 (i := 78) rfl rfl
theorem wd_79 : Cond.fieldLink "RegretPegs$Law" 19 "RegretPegs$Law" "values" "[I" ∈ rp_W0 := rp_t1 (i := 79) rfl rfl
theorem wd_80 : Cond.laysFinal "RegretPegs$Law" "RegretPegs$Law" "use" "I" ∈ rp_W0 := rp_t1 (i := 80) rfl rfl
theorem wd_82 : Cond.lays "RegretPegs$Law" "RegretPegs$Law" "size" "I" ∈ rp_W0 := rp_t1 (i := 82) rfl rfl
theorem wd_84 : Cond.laysFinal "RegretPegs$Law" "RegretPegs$Law" "code" "[I" ∈ rp_W0 := rp_t1 (i := 84) rfl rfl
theorem wd_86 : Cond.laysFinal "RegretPegs$Law" "RegretPegs$Law" "values" "[I" ∈ rp_W0 := rp_t1 (i := 86) rfl rfl
theorem wd_89 : Cond.fieldLink "RegretPegs$Evening" 12 "RegretPegs$Evening" "ball" "LRegretPegs$Ball;" ∈ rp_W0 := rp_t1 (i := 89) rfl rfl
theorem wd_90 : Cond.fieldLink "RegretPegs" 76 "RegretPegs$Evening" "ball" "LRegretPegs$Ball;" ∈ rp_W0 := rp_t1 (i := 90) rfl rfl
theorem wd_91 : Cond.fieldLink "RegretPegs$Evening" 23 "RegretPegs$Evening" "dancing" "LRegretPegs$Law;" ∈ rp_W0 := rp_t1 (i := 91) rfl rfl
theorem wd_92 : Cond.fieldLink "RegretPegs" 155 "RegretPegs$Evening" "dancing" "LRegretPegs$Law;" ∈ rp_W0 := rp_t1 (i := 92) rfl rfl
theorem wd_93 : Cond.fieldLink "RegretPegs$Evening" 27 "RegretPegs$Evening" "shifts" "LRegretPegs$Law;" ∈ rp_W0 := rp_t1 (i := 93) rfl rfl
theorem wd_94 : Cond.fieldLink "RegretPegs" 166 "RegretPegs$Evening" "shifts" "LRegretPegs$Law;" ∈ rp_W0 := rp_t1 (i := 94) rfl rfl
theorem wd_95 : Cond.fieldLink "RegretPegs$Evening" 30 "RegretPegs$Evening" "tape" "[B" ∈ rp_W0 := rp_t1 (i := 95) rfl rfl
theorem wd_96 : Cond.fieldLink "RegretPegs" 35 "RegretPegs$Evening" "tape" "[B" ∈ rp_W0 := rp_t1 (i := 96) rfl rfl
theorem wd_97 : Cond.fieldLink "RegretPegs$Evening" 34 "RegretPegs$Evening" "taped" "I" ∈ rp_W0 := rp_t1 (i := 97) rfl rfl
theorem wd_98 : Cond.fieldLink "RegretPegs" 128 "RegretPegs$Evening" "taped" "I" ∈ rp_W0 := rp_t1 (i := 98) rfl rfl
theorem wd_99 : Cond.fieldLink "RegretPegs$Evening" 38 "RegretPegs$Evening" "waiting" "[I" ∈ rp_W0 := rp_t1 (i := 99) rfl rfl
theorem wd_100 : Cond.fieldLink "RegretPegs" 256 "RegretPegs$Evening" "waiting" "[I" ∈ rp_W0 := rp_t1 (i := 100) rfl rfl
theorem wd_101 : Cond.fieldLink "RegretPegs$Evening" 42 "RegretPegs$Evening" "waits" "I" ∈ rp_W0 := rp_t1 (i := 101) rfl rfl
theorem wd_102 : Cond.fieldLink "RegretPegs" 253 "RegretPegs$Evening" "waits" "I" ∈ rp_W0 := rp_t1 (i := 102) rfl rfl
theorem wd_103 : Cond.fieldLink "RegretPegs$Evening" 45 "RegretPegs$Evening" "hour" "I" ∈ rp_W0 := rp_t1 (i := 103) rfl rfl
theorem wd_104 : Cond.fieldLink "RegretPegs" 163 "RegretPegs$Evening" "hour" "I" ∈ rp_W0 := rp_t1 (i := 104) rfl rfl
theorem wd_105 : Cond.fieldLink "RegretPegs$Evening" 48 "RegretPegs$Evening" "z" "I" ∈ rp_W0 := rp_t1 (i := 105) rfl rfl
theorem wd_106 : Cond.fieldLink "RegretPegs" 214 "RegretPegs$Evening" "z" "I" ∈ rp_W0 := rp_t1 (i := 106) rfl rfl
theorem wd_107 : Cond.laysFinal "RegretPegs$Evening" "RegretPegs$Evening" "ball" "LRegretPegs$Ball;" ∈ rp_W0 := rp_t1 (i := 107) rfl rfl
theorem wd_109 : Cond.laysFinal "RegretPegs$Evening" "RegretPegs$Evening" "dancing" "LRegretPegs$Law;" ∈ rp_W0 := rp_t1 (i := 109) rfl rfl
theorem wd_111 : Cond.laysFinal "RegretPegs$Evening" "RegretPegs$Evening" "shifts" "LRegretPegs$Law;" ∈ rp_W0 := rp_t1 (i := 111) rfl rfl
theorem wd_113 : Cond.laysFinal "RegretPegs$Evening" "RegretPegs$Evening" "tape" "[B" ∈ rp_W0 := rp_t1 (i := 113) rfl rfl
theorem wd_115 : Cond.lays "RegretPegs$Evening" "RegretPegs$Evening" "taped" "I" ∈ rp_W0 := rp_t1 (i := 115) rfl rfl
theorem wd_117 : Cond.laysFinal "RegretPegs$Evening" "RegretPegs$Evening" "waiting" "[I" ∈ rp_W0 := rp_t1 (i := 117) rfl rfl
theorem wd_119 : Cond.lays "RegretPegs$Evening" "RegretPegs$Evening" "waits" "I" ∈ rp_W0 := rp_t1 (i := 119) rfl rfl
theorem wd_121 : Cond.lays "RegretPegs$Evening" "RegretPegs$Evening" "hour" "I" ∈ rp_W0 := rp_t1 (i := 121) rfl rfl
theorem wd_123 : Cond.lays "RegretPegs$Evening" "RegretPegs$Evening" "z" "I" ∈ rp_W0 := rp_t1 (i := 123) rfl rfl
theorem wd_126 : Cond.arrayClass .byte ∈ rp_W0 := rp_t1 (i := 126) rfl rfl
theorem wd_127 : Cond.classLink "RegretPegs" 23 "RegretPegs$Ball" ∈ rp_W0 := rp_t1 (i := 127) rfl rfl
theorem wd_129 : Cond.classLink "RegretPegs" 33 "RegretPegs$Reader" ∈ rp_W0 := rp_t1 (i := 129) rfl rfl
theorem wd_130 : Cond.instantiable "RegretPegs$Reader" 6 ∈ rp_W0 := rp_t1 (i := 130) rfl rfl
theorem wd_131 : Cond.methodLink "RegretPegs" 39 yX3_init ∈ rp_W0 := rp_t1 (i := 131) rfl rfl
theorem wd_132 : Cond.instanceMethod yX3_init ∈ rp_W0 := rp_t1 (i := 132) rfl rfl
theorem wd_133 : Cond.code yX3_init prog_5_method_1_code 2 none ∈ rp_W0 := rp_t1 (i := 133) rfl rfl
theorem wd_134 : Cond.methodLink "RegretPegs$Reader" 3 ⟨"java/lang/Object", "<init>", "()V"⟩ ∈ rp_W0 := rp_t1 (i := 134) rfl rfl
theorem wd_135 : Cond.fieldLink "RegretPegs$Reader" 28 "RegretPegs$Reader" "tape" "[B" ∈ rp_W0 := rp_t1 (i := 135) rfl rfl
theorem wd_136 : Cond.fieldLink "RegretPegs$Reader" 9 "RegretPegs$Reader" "length" "I" ∈ rp_W0 := rp_t1 (i := 136) rfl rfl
theorem wd_137 : Cond.fieldLink "RegretPegs$Reader" 15 "RegretPegs$Reader" "use" "I" ∈ rp_W0 := rp_t1 (i := 137) rfl rfl
theorem wd_138 : Cond.fieldLink "RegretPegs$Reader" 18 "RegretPegs$Reader" "at" "I" ∈ rp_W0 := rp_t1 (i := 138) rfl rfl
theorem wd_139 : Cond.fieldLink "RegretPegs" 134 "RegretPegs$Reader" "at" "I" ∈ rp_W0 := rp_t1 (i := 139) rfl rfl
theorem wd_140 : Cond.fieldLink "RegretPegs$Reader" 21 "RegretPegs$Reader" "size" "I" ∈ rp_W0 := rp_t1 (i := 140) rfl rfl
theorem wd_141 : Cond.fieldLink "RegretPegs" 144 "RegretPegs$Reader" "size" "I" ∈ rp_W0 := rp_t1 (i := 141) rfl rfl
theorem wd_142 : Cond.fieldLink "RegretPegs$Reader" 24 "RegretPegs$Reader" "code" "[I" ∈ rp_W0 := rp_t1 (i := 142) rfl rfl
theorem wd_143 : Cond.fieldLink "RegretPegs" 141 "RegretPegs$Reader" "code" "[I" ∈ rp_W0 := rp_t1 (i := 143) rfl rfl
theorem wd_144 : Cond.laysFinal "RegretPegs$Reader" "RegretPegs$Reader" "tape" "[B" ∈ rp_W0 := rp_t1 (i := 144) rfl rfl
theorem wd_146 : Cond.lays "RegretPegs$Reader" "RegretPegs$Reader" "length" "I" ∈ rp_W0 := rp_t1 (i := 146) rfl rfl
theorem wd_148 : Cond.lays "RegretPegs$Reader" "RegretPegs$Reader" "use" "I" ∈ rp_W0 := rp_t1 (i := 148) rfl rfl
theorem wd_150 : Cond.lays "RegretPegs$Reader" "RegretPegs$Reader" "at" "I" ∈ rp_W0 := rp_t1 (i := 150) rfl rfl
theorem wd_152 : Cond.lays "RegretPegs$Reader" "RegretPegs$Reader" "size" "I" ∈ rp_W0 := rp_t1 (i := 152) rfl rfl
theorem wd_154 : Cond.laysFinal "RegretPegs$Reader" "RegretPegs$Reader" "code" "[I" ∈ rp_W0 := rp_t1 (i := 154) rfl rfl
theorem wd_157 : Cond.classLink "RegretPegs" 46 "RegretPegs$Voices" ∈ rp_W0 := rp_t1 (i := 157) rfl rfl
theorem wd_158 : Cond.instantiable "RegretPegs$Voices" 5 ∈ rp_W0 := rp_t1 (i := 158) rfl rfl
theorem wd_160 : Cond.instanceMethod yX5_init ∈ rp_W0 := rp_t1 (i := 160) rfl rfl
theorem wd_161 : Cond.code yX5_init prog_7_method_1_code 1 none ∈ rp_W0 := rp_t1 (i := 161) rfl rfl
theorem wd_162 : Cond.methodLink "RegretPegs$Voices" 3 ⟨"java/lang/Object", "<init>", "()V"⟩ ∈ rp_W0 := rp_t1 (i := 162) rfl rfl
theorem wd_163 : Cond.fieldLink "RegretPegs$Voices" 9 "RegretPegs$Voices" "kind" "I" ∈ rp_W0 := rp_t1 (i := 163) rfl rfl
theorem wd_164 : Cond.fieldLink "RegretPegs$Voices" 15 "RegretPegs$Voices" "n" "I" ∈ rp_W0 := rp_t1 (i := 164) rfl rfl
theorem wd_165 : Cond.fieldLink "RegretPegs$Voices" 18 "RegretPegs$Voices" "m" "I" ∈ rp_W0 := rp_t1 (i := 165) rfl rfl
theorem wd_166 : Cond.fieldLink "RegretPegs$Voices" 21 "RegretPegs$Voices" "begun" "I" ∈ rp_W0 := rp_t1 (i := 166) rfl rfl
theorem wd_167 : Cond.fieldLink "RegretPegs" 221 "RegretPegs$Voices" "begun" "I" ∈ rp_W0 := rp_t1 (i := 167) rfl rfl
theorem wd_168 : Cond.fieldLink "RegretPegs$Voices" 24 "RegretPegs$Voices" "bodies" "[I" ∈ rp_W0 := rp_t1 (i := 168) rfl rfl
theorem wd_169 : Cond.fieldLink "RegretPegs" 224 "RegretPegs$Voices" "bodies" "[I" ∈ rp_W0 := rp_t1 (i := 169) rfl rfl
theorem wd_170 : Cond.lays "RegretPegs$Voices" "RegretPegs$Voices" "kind" "I" ∈ rp_W0 := rp_t1 (i := 170) rfl rfl
theorem wd_172 : Cond.lays "RegretPegs$Voices" "RegretPegs$Voices" "n" "I" ∈ rp_W0 := rp_t1 (i := 172) rfl rfl
theorem wd_174 : Cond.lays "RegretPegs$Voices" "RegretPegs$Voices" "m" "I" ∈ rp_W0 := rp_t1 (i := 174) rfl rfl
theorem wd_176 : Cond.lays "RegretPegs$Voices" "RegretPegs$Voices" "begun" "I" ∈ rp_W0 := rp_t1 (i := 176) rfl rfl
theorem wd_178 : Cond.laysFinal "RegretPegs$Voices" "RegretPegs$Voices" "bodies" "[I" ∈ rp_W0 := rp_t1 (i := 178) rfl rfl
theorem wd_181 : Cond.classLink "RegretPegs" 53 "RegretPegs$Sheet" ∈ rp_W0 := rp_t1 (i := 181) rfl rfl
theorem wd_183 : Cond.instantiable "RegretPegs$Sheet" 3 ∈ rp_W0 := rp_t1 (i := 183) rfl rfl
theorem wd_185 : Cond.instanceMethod yX4_init ∈ rp_W0 := rp_t1 (i := 185) rfl rfl
theorem wd_186 : Cond.code yX4_init prog_6_method_1_code 1 none ∈ rp_W0 := rp_t1 (i := 186) rfl rfl
theorem wd_187 : Cond.methodLink "RegretPegs$Sheet" 3 ⟨"java/lang/Object", "<init>", "()V"⟩ ∈ rp_W0 := rp_t1 (i := 187) rfl rfl
theorem wd_188 : Cond.fieldLink "RegretPegs$Sheet" 9 "RegretPegs$Sheet" "bits" "I" ∈ rp_W0 := rp_t1 (i := 188) rfl rfl
theorem wd_189 : Cond.fieldLink "RegretPegs" 200 "RegretPegs$Sheet" "bits" "I" ∈ rp_W0 := rp_t1 (i := 189) rfl rfl
theorem wd_190 : Cond.fieldLink "RegretPegs$Sheet" 15 "RegretPegs$Sheet" "size" "I" ∈ rp_W0 := rp_t1 (i := 190) rfl rfl
theorem wd_191 : Cond.fieldLink "RegretPegs" 203 "RegretPegs$Sheet" "size" "I" ∈ rp_W0 := rp_t1 (i := 191) rfl rfl
theorem wd_192 : Cond.fieldLink "RegretPegs$Sheet" 18 "RegretPegs$Sheet" "numbers" "[I" ∈ rp_W0 := rp_t1 (i := 192) rfl rfl
theorem wd_193 : Cond.fieldLink "RegretPegs" 236 "RegretPegs$Sheet" "numbers" "[I" ∈ rp_W0 := rp_t1 (i := 193) rfl rfl
theorem wd_194 : Cond.lays "RegretPegs$Sheet" "RegretPegs$Sheet" "bits" "I" ∈ rp_W0 := rp_t1 (i := 194) rfl rfl
theorem wd_196 : Cond.lays "RegretPegs$Sheet" "RegretPegs$Sheet" "size" "I" ∈ rp_W0 := rp_t1 (i := 196) rfl rfl
theorem wd_198 : Cond.laysFinal "RegretPegs$Sheet" "RegretPegs$Sheet" "numbers" "[I" ∈ rp_W0 := rp_t1 (i := 198) rfl rfl
theorem wd_201 : Cond.fieldLink "RegretPegs" 10 "RegretPegs" "now" "LRegretPegs$Evening;" ∈ rp_W0 := rp_t1 (i := 201) rfl rfl
theorem wd_202 : Cond.fieldLink "RegretPegs" 16 "RegretPegs" "kept" "LRegretPegs$Evening;" ∈ rp_W0 := rp_t1 (i := 202) rfl rfl
theorem wd_203 : Cond.fieldLink "RegretPegs" 19 "RegretPegs" "images" "I" ∈ rp_W0 := rp_t1 (i := 203) rfl rfl
theorem wd_204 : Cond.fieldLink "RegretPegs" 26 "RegretPegs" "thought" "LRegretPegs$Ball;" ∈ rp_W0 := rp_t1 (i := 204) rfl rfl
theorem wd_205 : Cond.fieldLink "RegretPegs" 30 "RegretPegs" "firstDanced" "LRegretPegs$Ball;" ∈ rp_W0 := rp_t1 (i := 205) rfl rfl
theorem wd_206 : Cond.fieldLink "RegretPegs" 42 "RegretPegs" "reader" "LRegretPegs$Reader;" ∈ rp_W0 := rp_t1 (i := 206) rfl rfl
theorem wd_207 : Cond.fieldLink "RegretPegs" 49 "RegretPegs" "voices" "LRegretPegs$Voices;" ∈ rp_W0 := rp_t1 (i := 207) rfl rfl
theorem wd_208 : Cond.fieldLink "RegretPegs" 56 "RegretPegs" "sheets" "[LRegretPegs$Sheet;" ∈ rp_W0 := rp_t1 (i := 208) rfl rfl
theorem wd_209 : Cond.fieldLink "RegretPegs" 60 "RegretPegs" "errors" "[I" ∈ rp_W0 := rp_t1 (i := 209) rfl rfl
theorem wd_210 : Cond.laysFinal "RegretPegs" "RegretPegs" "now" "LRegretPegs$Evening;" ∈ rp_W0 := rp_t1 (i := 210) rfl rfl
theorem wd_212 : Cond.laysFinal "RegretPegs" "RegretPegs" "kept" "LRegretPegs$Evening;" ∈ rp_W0 := rp_t1 (i := 212) rfl rfl
theorem wd_214 : Cond.lays "RegretPegs" "RegretPegs" "images" "I" ∈ rp_W0 := rp_t1 (i := 214) rfl rfl
theorem wd_216 : Cond.laysFinal "RegretPegs" "RegretPegs" "thought" "LRegretPegs$Ball;" ∈ rp_W0 := rp_t1 (i := 216) rfl rfl
theorem wd_218 : Cond.laysFinal "RegretPegs" "RegretPegs" "firstDanced" "LRegretPegs$Ball;" ∈ rp_W0 := rp_t1 (i := 218) rfl rfl
theorem wd_220 : Cond.laysFinal "RegretPegs" "RegretPegs" "reader" "LRegretPegs$Reader;" ∈ rp_W0 := rp_t1 (i := 220) rfl rfl
theorem wd_222 : Cond.laysFinal "RegretPegs" "RegretPegs" "voices" "LRegretPegs$Voices;" ∈ rp_W0 := rp_t1 (i := 222) rfl rfl
theorem wd_224 : Cond.laysFinal "RegretPegs" "RegretPegs" "sheets" "[LRegretPegs$Sheet;" ∈ rp_W0 := rp_t1 (i := 224) rfl rfl
theorem wd_226 : Cond.laysFinal "RegretPegs" "RegretPegs" "errors" "[I" ∈ rp_W0 := rp_t1 (i := 226) rfl rfl
theorem wd_229 : Cond.methodLink "RegretPegsLaw" 13 yX6_guest ∈ rp_W0 := rp_t1 (i := 229) rfl rfl
theorem wd_230 : Cond.instanceMethod yX6_guest ∈ rp_W0 := rp_t1 (i := 230) rfl rfl
theorem wd_231 : Cond.selects "RegretPegs" yX6_guest yX6_guest ∈ rp_W0 := rp_t1 (i := 231) rfl rfl
theorem wd_232 : Cond.code yX6_guest prog_1_method_2_code 3 (some .int) ∈ rp_W0 := rp_t1 (i := 232) rfl rfl
theorem wd_233 : Cond.methodLink "RegretPegs" 64 yX6_isKindAndNumber ∈ rp_W0 := rp_t1 (i := 233) rfl rfl
theorem wd_234 : Cond.static yX6_isKindAndNumber ∈ rp_W0 := rp_t1 (i := 234) rfl rfl
theorem wd_235 : Cond.code yX6_isKindAndNumber prog_1_method_47_code 1 (some .boolean) ∈ rp_W0 := rp_t1 (i := 235) rfl rfl
theorem wd_236 : Cond.methodLink "RegretPegs" 68 yX6_isWithin ∈ rp_W0 := rp_t1 (i := 236) rfl rfl
theorem wd_237 : Cond.static yX6_isWithin ∈ rp_W0 := rp_t1 (i := 237) rfl rfl
theorem wd_238 : Cond.code yX6_isWithin prog_1_method_46_code 3 (some .boolean) ∈ rp_W0 := rp_t1 (i := 238) rfl rfl
theorem wd_239 : Cond.methodLink "RegretPegs" 72 yX6_refuse ∈ rp_W0 := rp_t1 (i := 239) rfl rfl
theorem wd_241 : Cond.instanceMethod yX6_refuse ∈ rp_W0 := rp_t2 (i := 1) rfl rfl
theorem wd_242 : Cond.code yX6_refuse prog_1_method_41_code 2 (some .int) ∈ rp_W0 := rp_t2 (i := 2) rfl rfl
theorem wd_243 : Cond.constant "RegretPegs" 265 (-1000000000) ∈ rp_W0 := rp_t2 (i := 3) rfl rfl
theorem wd_244 : Cond.methodLink "RegretPegs" 82 yX0_admit ∈ rp_W0 := rp_t2 (i := 4) rfl rfl
theorem wd_245 : Cond.instanceMethod yX0_admit ∈ rp_W0 := rp_t2 (i := 5) rfl rfl
theorem wd_246 : Cond.selects "RegretPegs$Ball" yX0_admit yX0_admit ∈ rp_W0 := rp_t2 (i := 6) rfl rfl
theorem wd_247 : Cond.code yX0_admit prog_2_method_3_code 4 (some .int) ∈ rp_W0 := rp_t2 (i := 7) rfl rfl
theorem wd_248 : Cond.methodLink "RegretPegsLaw" 18 yX6_ofGuest ∈ rp_W0 := rp_t2 (i := 8) rfl rfl
theorem wd_249 : Cond.instanceMethod yX6_ofGuest ∈ rp_W0 := rp_t2 (i := 9) rfl rfl
theorem wd_250 : Cond.selects "RegretPegs" yX6_ofGuest yX6_ofGuest ∈ rp_W0 := rp_t2 (i := 10) rfl rfl
theorem wd_251 : Cond.code yX6_ofGuest prog_1_method_3_code 4 (some .int) ∈ rp_W0 := rp_t2 (i := 11) rfl rfl
theorem wd_252 : Cond.methodLink "RegretPegs" 86 yX6_isGuest ∈ rp_W0 := rp_t2 (i := 12) rfl rfl
theorem wd_254 : Cond.instanceMethod yX6_isGuest ∈ rp_W0 := rp_t2 (i := 14) rfl rfl
theorem wd_255 : Cond.code yX6_isGuest prog_1_method_43_code 2 (some .boolean) ∈ rp_W0 := rp_t2 (i := 15) rfl rfl
theorem wd_256 : Cond.methodLink "RegretPegs" 104 yX0_pegOf ∈ rp_W0 := rp_t2 (i := 16) rfl rfl
theorem wd_257 : Cond.instanceMethod yX0_pegOf ∈ rp_W0 := rp_t2 (i := 17) rfl rfl
theorem wd_258 : Cond.selects "RegretPegs$Ball" yX0_pegOf yX0_pegOf ∈ rp_W0 := rp_t2 (i := 18) rfl rfl
theorem wd_259 : Cond.code yX0_pegOf prog_2_method_4_code 3 (some .int) ∈ rp_W0 := rp_t2 (i := 19) rfl rfl
theorem wd_260 : Cond.methodLink "RegretPegs" 107 yX0_growsOn ∈ rp_W0 := rp_t2 (i := 20) rfl rfl
theorem wd_261 : Cond.instanceMethod yX0_growsOn ∈ rp_W0 := rp_t2 (i := 21) rfl rfl
theorem wd_262 : Cond.selects "RegretPegs$Ball" yX0_growsOn yX0_growsOn ∈ rp_W0 := rp_t2 (i := 22) rfl rfl
theorem wd_263 : Cond.code yX0_growsOn prog_2_method_7_code 4 (some .int) ∈ rp_W0 := rp_t2 (i := 23) rfl rfl
theorem wd_264 : Cond.methodLink "RegretPegsLaw" 22 yX6_change ∈ rp_W0 := rp_t2 (i := 24) rfl rfl
theorem wd_265 : Cond.instanceMethod yX6_change ∈ rp_W0 := rp_t2 (i := 25) rfl rfl
theorem wd_266 : Cond.selects "RegretPegs" yX6_change yX6_change ∈ rp_W0 := rp_t2 (i := 26) rfl rfl
theorem wd_267 : Cond.code yX6_change prog_1_method_4_code 4 (some .int) ∈ rp_W0 := rp_t2 (i := 27) rfl rfl
theorem wd_268 : Cond.methodLink "RegretPegs" 110 yX6_replace ∈ rp_W0 := rp_t2 (i := 28) rfl rfl
theorem wd_270 : Cond.instanceMethod yX6_replace ∈ rp_W0 := rp_t2 (i := 30) rfl rfl
theorem wd_271 : Cond.code yX6_replace prog_1_method_42_code 6 (some .int) ∈ rp_W0 := rp_t2 (i := 31) rfl rfl
theorem wd_272 : Cond.methodLink "RegretPegsLaw" 27 yX6_peg ∈ rp_W0 := rp_t2 (i := 32) rfl rfl
theorem wd_273 : Cond.instanceMethod yX6_peg ∈ rp_W0 := rp_t2 (i := 33) rfl rfl
theorem wd_274 : Cond.selects "RegretPegs" yX6_peg yX6_peg ∈ rp_W0 := rp_t2 (i := 34) rfl rfl
theorem wd_275 : Cond.code yX6_peg prog_1_method_5_code 2 (some .int) ∈ rp_W0 := rp_t2 (i := 35) rfl rfl
theorem wd_276 : Cond.methodLink "RegretPegs" 114 yX6_isPeg ∈ rp_W0 := rp_t2 (i := 36) rfl rfl
theorem wd_278 : Cond.instanceMethod yX6_isPeg ∈ rp_W0 := rp_t2 (i := 38) rfl rfl
theorem wd_279 : Cond.code yX6_isPeg prog_1_method_44_code 2 (some .boolean) ∈ rp_W0 := rp_t2 (i := 39) rfl rfl
theorem wd_280 : Cond.methodLink "RegretPegsLaw" 32 yX6_hang ∈ rp_W0 := rp_t2 (i := 40) rfl rfl
theorem wd_281 : Cond.instanceMethod yX6_hang ∈ rp_W0 := rp_t2 (i := 41) rfl rfl
theorem wd_282 : Cond.selects "RegretPegs" yX6_hang yX6_hang ∈ rp_W0 := rp_t2 (i := 42) rfl rfl
theorem wd_283 : Cond.code yX6_hang prog_1_method_6_code 3 (some .int) ∈ rp_W0 := rp_t2 (i := 43) rfl rfl
theorem wd_284 : Cond.methodLink "RegretPegs" 120 yX0_exchange ∈ rp_W0 := rp_t2 (i := 44) rfl rfl
theorem wd_285 : Cond.instanceMethod yX0_exchange ∈ rp_W0 := rp_t2 (i := 45) rfl rfl
theorem wd_286 : Cond.selects "RegretPegs$Ball" yX0_exchange yX0_exchange ∈ rp_W0 := rp_t2 (i := 46) rfl rfl
theorem wd_287 : Cond.code yX0_exchange prog_2_method_6_code 4 none ∈ rp_W0 := rp_t2 (i := 47) rfl rfl
theorem wd_288 : Cond.methodLink "RegretPegsLaw" 36 yX6_become ∈ rp_W0 := rp_t2 (i := 48) rfl rfl
theorem wd_289 : Cond.instanceMethod yX6_become ∈ rp_W0 := rp_t2 (i := 49) rfl rfl
theorem wd_290 : Cond.selects "RegretPegs" yX6_become yX6_become ∈ rp_W0 := rp_t2 (i := 50) rfl rfl
theorem wd_291 : Cond.code yX6_become prog_1_method_7_code 4 (some .int) ∈ rp_W0 := rp_t2 (i := 51) rfl rfl
theorem wd_292 : Cond.methodLink "RegretPegsLaw" 40 yX6_as ∈ rp_W0 := rp_t2 (i := 52) rfl rfl
theorem wd_293 : Cond.instanceMethod yX6_as ∈ rp_W0 := rp_t2 (i := 53) rfl rfl
theorem wd_294 : Cond.selects "RegretPegs" yX6_as yX6_as ∈ rp_W0 := rp_t2 (i := 54) rfl rfl
theorem wd_295 : Cond.code yX6_as prog_1_method_8_code 3 (some .int) ∈ rp_W0 := rp_t2 (i := 55) rfl rfl
theorem wd_296 : Cond.methodLink "RegretPegs" 124 yX6_isUnder ∈ rp_W0 := rp_t2 (i := 56) rfl rfl
theorem wd_297 : Cond.static yX6_isUnder ∈ rp_W0 := rp_t2 (i := 57) rfl rfl
theorem wd_298 : Cond.code yX6_isUnder prog_1_method_48_code 4 (some .boolean) ∈ rp_W0 := rp_t2 (i := 58) rfl rfl
theorem wd_299 : Cond.fieldLink "RegretPegs" 266 "RegretPegs" "ABOVE" "[I" ∈ rp_W0 := rp_t2 (i := 59) rfl rfl
theorem wd_301 : Cond.methodLink "RegretPegsLaw" 46 yX6_feed ∈ rp_W0 := rp_t2 (i := 61) rfl rfl
theorem wd_302 : Cond.instanceMethod yX6_feed ∈ rp_W0 := rp_t2 (i := 62) rfl rfl
theorem wd_303 : Cond.selects "RegretPegs" yX6_feed yX6_feed ∈ rp_W0 := rp_t2 (i := 63) rfl rfl
theorem wd_304 : Cond.code yX6_feed prog_1_method_9_code 5 (some .int) ∈ rp_W0 := rp_t2 (i := 64) rfl rfl
theorem wd_305 : Cond.methodLink "RegretPegsLaw" 51 yX6_text ∈ rp_W0 := rp_t2 (i := 65) rfl rfl
theorem wd_306 : Cond.instanceMethod yX6_text ∈ rp_W0 := rp_t2 (i := 66) rfl rfl
theorem wd_307 : Cond.selects "RegretPegs" yX6_text yX6_text ∈ rp_W0 := rp_t2 (i := 67) rfl rfl
theorem wd_308 : Cond.code yX6_text prog_1_method_10_code 3 (some .int) ∈ rp_W0 := rp_t2 (i := 68) rfl rfl
theorem wd_309 : Cond.methodLink "RegretPegs" 131 yX3_reads ∈ rp_W0 := rp_t2 (i := 69) rfl rfl
theorem wd_310 : Cond.instanceMethod yX3_reads ∈ rp_W0 := rp_t2 (i := 70) rfl rfl
theorem wd_311 : Cond.selects "RegretPegs$Reader" yX3_reads yX3_reads ∈ rp_W0 := rp_t2 (i := 71) rfl rfl
theorem wd_312 : Cond.code yX3_reads prog_5_method_2_code 3 (some .boolean) ∈ rp_W0 := rp_t2 (i := 72) rfl rfl
theorem wd_313 : Cond.methodLink "RegretPegs$Reader" 32 yJ9_min_7cf53 ∈ rp_W0 := rp_t2 (i := 73) rfl rfl
theorem wd_314 : Cond.static yJ9_min_7cf53 ∈ rp_W0 := rp_t2 (i := 74) rfl rfl
theorem wd_315 : Cond.code yJ9_min_7cf53 prog_10_method_69_code 2 (some .int) ∈ rp_W0 := rp_t2 (i := 75) rfl rfl
theorem wd_316 : Cond.methodLink "RegretPegs$Reader" 38 yX3_readLevel ∈ rp_W0 := rp_t2 (i := 76) rfl rfl
theorem wd_318 : Cond.instanceMethod yX3_readLevel ∈ rp_W0 := rp_t2 (i := 78) rfl rfl
theorem wd_319 : Cond.code yX3_readLevel prog_5_method_5_code 6 (some .boolean) ∈ rp_W0 := rp_t2 (i := 79) rfl rfl
theorem wd_320 : Cond.methodLink "RegretPegs$Reader" 42 yX3_readQ ∈ rp_W0 := rp_t2 (i := 80) rfl rfl
theorem wd_322 : Cond.instanceMethod yX3_readQ ∈ rp_W0 := rp_t2 (i := 82) rfl rfl
theorem wd_323 : Cond.code yX3_readQ prog_5_method_7_code 4 (some .boolean) ∈ rp_W0 := rp_t2 (i := 83) rfl rfl
theorem wd_324 : Cond.methodLink "RegretPegs$Reader" 46 yX3_ahead ∈ rp_W0 := rp_t2 (i := 84) rfl rfl
theorem wd_326 : Cond.instanceMethod yX3_ahead ∈ rp_W0 := rp_t2 (i := 86) rfl rfl
theorem wd_327 : Cond.code yX3_ahead prog_5_method_3_code 1 (some .int) ∈ rp_W0 := rp_t2 (i := 87) rfl rfl
theorem wd_328 : Cond.methodLink "RegretPegs$Reader" 58 yX3_isDigit ∈ rp_W0 := rp_t2 (i := 88) rfl rfl
theorem wd_329 : Cond.static yX3_isDigit ∈ rp_W0 := rp_t2 (i := 89) rfl rfl
theorem wd_330 : Cond.code yX3_isDigit prog_5_method_11_code 1 (some .boolean) ∈ rp_W0 := rp_t2 (i := 90) rfl rfl
theorem wd_331 : Cond.methodLink "RegretPegs$Reader" 61 yX3_readNumber ∈ rp_W0 := rp_t2 (i := 91) rfl rfl
theorem wd_333 : Cond.instanceMethod yX3_readNumber ∈ rp_W0 := rp_t2 (i := 93) rfl rfl
theorem wd_334 : Cond.code yX3_readNumber prog_5_method_10_code 3 none ∈ rp_W0 := rp_t2 (i := 94) rfl rfl
theorem wd_335 : Cond.methodLink "RegretPegs$Reader" 54 yX3_emit ∈ rp_W0 := rp_t2 (i := 95) rfl rfl
theorem wd_337 : Cond.instanceMethod yX3_emit ∈ rp_W0 := rp_t2 (i := 97) rfl rfl
theorem wd_338 : Cond.code yX3_emit prog_5_method_4_code 2 none ∈ rp_W0 := rp_t2 (i := 98) rfl rfl
theorem wd_339 : Cond.methodLink "RegretPegs$Reader" 64 yX3_nameOf ∈ rp_W0 := rp_t2 (i := 99) rfl rfl
theorem wd_341 : Cond.instanceMethod yX3_nameOf ∈ rp_W0 := rp_t2 (i := 101) rfl rfl
theorem wd_342 : Cond.code yX3_nameOf prog_5_method_12_code 2 (some .int) ∈ rp_W0 := rp_t2 (i := 102) rfl rfl
theorem wd_343 : Cond.methodLink "RegretPegs$Reader" 67 yX3_readNot ∈ rp_W0 := rp_t2 (i := 103) rfl rfl
theorem wd_345 : Cond.instanceMethod yX3_readNot ∈ rp_W0 := rp_t2 (i := 105) rfl rfl
theorem wd_346 : Cond.code yX3_readNot prog_5_method_8_code 2 (some .boolean) ∈ rp_W0 := rp_t2 (i := 106) rfl rfl
theorem wd_347 : Cond.methodLink "RegretPegs$Reader" 70 yX3_readClosed ∈ rp_W0 := rp_t2 (i := 107) rfl rfl
theorem wd_349 : Cond.instanceMethod yX3_readClosed ∈ rp_W0 := rp_t2 (i := 109) rfl rfl
theorem wd_350 : Cond.code yX3_readClosed prog_5_method_9_code 2 (some .boolean) ∈ rp_W0 := rp_t2 (i := 110) rfl rfl
theorem wd_351 : Cond.methodLink "RegretPegs$Reader" 50 yX3_levelOf ∈ rp_W0 := rp_t2 (i := 111) rfl rfl
theorem wd_352 : Cond.static yX3_levelOf ∈ rp_W0 := rp_t2 (i := 112) rfl rfl
theorem wd_353 : Cond.code yX3_levelOf prog_5_method_6_code 1 (some .int) ∈ rp_W0 := rp_t2 (i := 113) rfl rfl
theorem wd_354 : Cond.methodLink "RegretPegs" 137 yX6_useLaw ∈ rp_W0 := rp_t2 (i := 114) rfl rfl
theorem wd_356 : Cond.instanceMethod yX6_useLaw ∈ rp_W0 := rp_t2 (i := 116) rfl rfl
theorem wd_357 : Cond.code yX6_useLaw prog_1_method_49_code 2 (Option.some (.object "RegretPegs$Law")) ∈ rp_W0 := rp_t2 (i := 117) rfl rfl
theorem wd_358 : Cond.methodLink "RegretPegs" 145 yX2_takeCode ∈ rp_W0 := rp_t2 (i := 118) rfl rfl
theorem wd_359 : Cond.instanceMethod yX2_takeCode ∈ rp_W0 := rp_t2 (i := 119) rfl rfl
theorem wd_360 : Cond.selects "RegretPegs$Law" yX2_takeCode yX2_takeCode ∈ rp_W0 := rp_t2 (i := 120) rfl rfl
theorem wd_361 : Cond.code yX2_takeCode prog_4_method_2_code 3 none ∈ rp_W0 := rp_t2 (i := 121) rfl rfl
theorem wd_362 : Cond.methodLink "RegretPegs$Law" 25 ⟨"java/lang/System", "arraycopy", "(Ljava/lang/Object;ILjava/lang/Object;II)V"⟩ ∈ rp_W0 := rp_t2 (i := 122) rfl rfl
theorem wd_363 : Cond.static ⟨"java/lang/System", "arraycopy", "(Ljava/lang/Object;ILjava/lang/Object;II)V"⟩ ∈ rp_W0 := rp_t2 (i := 123) rfl rfl
theorem wd_364 : Cond.native ⟨"java/lang/System", "arraycopy", "(Ljava/lang/Object;ILjava/lang/Object;II)V"⟩ ∈ rp_W0 := rp_t2 (i := 124) rfl rfl
theorem wd_365 : Cond.methodLink "RegretPegsLaw" 55 yX6_law ∈ rp_W0 := rp_t2 (i := 125) rfl rfl
theorem wd_366 : Cond.instanceMethod yX6_law ∈ rp_W0 := rp_t2 (i := 126) rfl rfl
theorem wd_367 : Cond.selects "RegretPegs" yX6_law yX6_law ∈ rp_W0 := rp_t2 (i := 127) rfl rfl
theorem wd_368 : Cond.code yX6_law prog_1_method_11_code 5 (some .int) ∈ rp_W0 := rp_t2 (i := 128) rfl rfl
theorem wd_369 : Cond.methodLink "RegretPegs" 151 yX2_give ∈ rp_W0 := rp_t2 (i := 129) rfl rfl
theorem wd_370 : Cond.instanceMethod yX2_give ∈ rp_W0 := rp_t2 (i := 130) rfl rfl
theorem wd_371 : Cond.selects "RegretPegs$Law" yX2_give yX2_give ∈ rp_W0 := rp_t2 (i := 131) rfl rfl
theorem wd_372 : Cond.code yX2_give prog_4_method_3_code 4 (some .int) ∈ rp_W0 := rp_t2 (i := 132) rfl rfl
theorem wd_373 : Cond.methodLink "RegretPegs$Law" 31 yX2_work ∈ rp_W0 := rp_t2 (i := 133) rfl rfl
theorem wd_375 : Cond.instanceMethod yX2_work ∈ rp_W0 := rp_t2 (i := 135) rfl rfl
theorem wd_376 : Cond.code yX2_work prog_4_method_4_code 7 (some .int) ∈ rp_W0 := rp_t2 (i := 136) rfl rfl
theorem wd_377 : Cond.methodLink "RegretPegs$Law" 48 yX2_valueOf ∈ rp_W0 := rp_t2 (i := 137) rfl rfl
theorem wd_378 : Cond.static yX2_valueOf ∈ rp_W0 := rp_t2 (i := 138) rfl rfl
theorem wd_379 : Cond.code yX2_valueOf prog_4_method_5_code 4 (some .int) ∈ rp_W0 := rp_t2 (i := 139) rfl rfl
theorem wd_380 : Cond.methodLink "RegretPegs$Law" 52 yX2_join ∈ rp_W0 := rp_t2 (i := 140) rfl rfl
theorem wd_381 : Cond.static yX2_join ∈ rp_W0 := rp_t2 (i := 141) rfl rfl
theorem wd_382 : Cond.code yX2_join prog_4_method_6_code 3 (some .int) ∈ rp_W0 := rp_t2 (i := 142) rfl rfl
theorem wd_384 : Cond.static yX6_heldRue ∈ rp_W0 := rp_t2 (i := 144) rfl rfl
theorem wd_385 : Cond.code yX6_heldRue prog_1_method_54_code 1 (some .int) ∈ rp_W0 := rp_t2 (i := 145) rfl rfl
theorem wd_386 : Cond.methodLink "RegretPegs" 245 yJ9_min_7cf53 ∈ rp_W0 := rp_t2 (i := 146) rfl rfl
theorem wd_387 : Cond.methodLink "RegretPegs" 269 yJ9_max_7cf53 ∈ rp_W0 := rp_t2 (i := 147) rfl rfl
theorem wd_388 : Cond.static yJ9_max_7cf53 ∈ rp_W0 := rp_t2 (i := 148) rfl rfl
theorem wd_389 : Cond.code yJ9_max_7cf53 prog_10_method_65_code 2 (some .int) ∈ rp_W0 := rp_t2 (i := 149) rfl rfl
theorem wd_390 : Cond.methodLink "RegretPegs$Law" 39 yJ9_min_7cf53 ∈ rp_W0 := rp_t2 (i := 150) rfl rfl
theorem wd_391 : Cond.methodLink "RegretPegs$Law" 45 yJ9_max_7cf53 ∈ rp_W0 := rp_t2 (i := 151) rfl rfl
theorem wd_392 : Cond.methodLink "RegretPegsLaw" 60 yX6_dance ∈ rp_W0 := rp_t2 (i := 152) rfl rfl
theorem wd_393 : Cond.instanceMethod yX6_dance ∈ rp_W0 := rp_t2 (i := 153) rfl rfl
theorem wd_394 : Cond.selects "RegretPegs" yX6_dance yX6_dance ∈ rp_W0 := rp_t2 (i := 154) rfl rfl
theorem wd_395 : Cond.code yX6_dance prog_1_method_12_code 3 (some .int) ∈ rp_W0 := rp_t2 (i := 155) rfl rfl
theorem wd_396 : Cond.methodLink "RegretPegs" 159 yX0_pairUp ∈ rp_W0 := rp_t2 (i := 156) rfl rfl
theorem wd_397 : Cond.instanceMethod yX0_pairUp ∈ rp_W0 := rp_t2 (i := 157) rfl rfl
theorem wd_398 : Cond.selects "RegretPegs$Ball" yX0_pairUp yX0_pairUp ∈ rp_W0 := rp_t2 (i := 158) rfl rfl
theorem wd_399 : Cond.code yX0_pairUp prog_2_method_8_code 5 none ∈ rp_W0 := rp_t2 (i := 159) rfl rfl
theorem wd_400 : Cond.methodLink "RegretPegs$Ball" 40 yX2_give ∈ rp_W0 := rp_t2 (i := 160) rfl rfl
theorem wd_401 : Cond.methodLink "RegretPegs$Ball" 46 yX0_noteDanced ∈ rp_W0 := rp_t2 (i := 161) rfl rfl
theorem wd_403 : Cond.instanceMethod yX0_noteDanced ∈ rp_W0 := rp_t2 (i := 163) rfl rfl
theorem wd_404 : Cond.code yX0_noteDanced prog_2_method_9_code 2 none ∈ rp_W0 := rp_t2 (i := 164) rfl rfl
theorem wd_405 : Cond.methodLink "RegretPegs$Ball" 50 yJ9_min_7cf53 ∈ rp_W0 := rp_t2 (i := 165) rfl rfl
theorem wd_406 : Cond.methodLink "RegretPegsLaw" 64 yX6_hours ∈ rp_W0 := rp_t2 (i := 166) rfl rfl
theorem wd_407 : Cond.instanceMethod yX6_hours ∈ rp_W0 := rp_t2 (i := 167) rfl rfl
theorem wd_408 : Cond.selects "RegretPegs" yX6_hours yX6_hours ∈ rp_W0 := rp_t2 (i := 168) rfl rfl
theorem wd_409 : Cond.code yX6_hours prog_1_method_13_code 2 (some .int) ∈ rp_W0 := rp_t2 (i := 169) rfl rfl
theorem wd_410 : Cond.methodLink "RegretPegs" 169 yX0_passHours ∈ rp_W0 := rp_t2 (i := 170) rfl rfl
theorem wd_411 : Cond.instanceMethod yX0_passHours ∈ rp_W0 := rp_t2 (i := 171) rfl rfl
theorem wd_412 : Cond.selects "RegretPegs$Ball" yX0_passHours yX0_passHours ∈ rp_W0 := rp_t2 (i := 172) rfl rfl
theorem wd_413 : Cond.code yX0_passHours prog_2_method_10_code 4 none ∈ rp_W0 := rp_t2 (i := 173) rfl rfl
theorem wd_414 : Cond.methodLink "RegretPegs$Ball" 56 yX0_growRue ∈ rp_W0 := rp_t2 (i := 174) rfl rfl
theorem wd_416 : Cond.instanceMethod yX0_growRue ∈ rp_W0 := rp_t2 (i := 176) rfl rfl
theorem wd_417 : Cond.code yX0_growRue prog_2_method_11_code 3 none ∈ rp_W0 := rp_t2 (i := 177) rfl rfl
theorem wd_418 : Cond.methodLink "RegretPegs$Ball" 63 yX0_growsOn ∈ rp_W0 := rp_t2 (i := 178) rfl rfl
theorem wd_420 : Cond.methodLink "RegretPegs$Ball" 59 yX0_shiftNeighbours ∈ rp_W0 := rp_t2 (i := 180) rfl rfl
theorem wd_422 : Cond.instanceMethod yX0_shiftNeighbours ∈ rp_W0 := rp_t2 (i := 182) rfl rfl
theorem wd_423 : Cond.code yX0_shiftNeighbours prog_2_method_12_code 5 none ∈ rp_W0 := rp_t2 (i := 183) rfl rfl
theorem wd_424 : Cond.methodLink "RegretPegs$Ball" 70 yX0_exchange ∈ rp_W0 := rp_t2 (i := 184) rfl rfl
theorem wd_425 : Cond.methodLink "RegretPegs" 173 yX0_rueTogether ∈ rp_W0 := rp_t2 (i := 185) rfl rfl
theorem wd_426 : Cond.instanceMethod yX0_rueTogether ∈ rp_W0 := rp_t2 (i := 186) rfl rfl
theorem wd_427 : Cond.selects "RegretPegs$Ball" yX0_rueTogether yX0_rueTogether ∈ rp_W0 := rp_t2 (i := 187) rfl rfl
theorem wd_428 : Cond.code yX0_rueTogether prog_2_method_14_code 3 (some .int) ∈ rp_W0 := rp_t2 (i := 188) rfl rfl
theorem wd_429 : Cond.methodLink "RegretPegsLaw" 68 yX6_loose ∈ rp_W0 := rp_t2 (i := 189) rfl rfl
theorem wd_430 : Cond.instanceMethod yX6_loose ∈ rp_W0 := rp_t2 (i := 190) rfl rfl
theorem wd_431 : Cond.selects "RegretPegs" yX6_loose yX6_loose ∈ rp_W0 := rp_t2 (i := 191) rfl rfl
theorem wd_432 : Cond.code yX6_loose prog_1_method_14_code 3 (some .int) ∈ rp_W0 := rp_t2 (i := 192) rfl rfl
theorem wd_433 : Cond.methodLink "RegretPegs" 177 yX1_holdBall ∈ rp_W0 := rp_t2 (i := 193) rfl rfl
theorem wd_434 : Cond.instanceMethod yX1_holdBall ∈ rp_W0 := rp_t2 (i := 194) rfl rfl
theorem wd_435 : Cond.selects "RegretPegs$Evening" yX1_holdBall yX1_holdBall ∈ rp_W0 := rp_t2 (i := 195) rfl rfl
theorem wd_436 : Cond.code yX1_holdBall prog_3_method_3_code 3 none ∈ rp_W0 := rp_t2 (i := 196) rfl rfl
theorem wd_437 : Cond.methodLink "RegretPegs$Evening" 72 yX1_draw ∈ rp_W0 := rp_t2 (i := 197) rfl rfl
theorem wd_439 : Cond.instanceMethod yX1_draw ∈ rp_W0 := rp_t2 (i := 199) rfl rfl
theorem wd_440 : Cond.code yX1_draw prog_3_method_4_code 1 (some .int) ∈ rp_W0 := rp_t2 (i := 200) rfl rfl
theorem wd_441 : Cond.constant "RegretPegs$Evening" 84 1103515245 ∈ rp_W0 := rp_t2 (i := 201) rfl rfl
theorem wd_442 : Cond.methodLink "RegretPegs$Evening" 76 yX0_pairUp ∈ rp_W0 := rp_t2 (i := 202) rfl rfl
theorem wd_443 : Cond.methodLink "RegretPegs$Evening" 80 yX0_passHours ∈ rp_W0 := rp_t2 (i := 203) rfl rfl
theorem wd_444 : Cond.methodLink "RegretPegsLaw" 72 yX6_then ∈ rp_W0 := rp_t2 (i := 204) rfl rfl
theorem wd_445 : Cond.instanceMethod yX6_then ∈ rp_W0 := rp_t2 (i := 205) rfl rfl
theorem wd_446 : Cond.selects "RegretPegs" yX6_then yX6_then ∈ rp_W0 := rp_t2 (i := 206) rfl rfl
theorem wd_447 : Cond.code yX6_then prog_1_method_15_code 4 (some .int) ∈ rp_W0 := rp_t2 (i := 207) rfl rfl
theorem wd_448 : Cond.methodLink "RegretPegs" 180 yX0_takeFrom ∈ rp_W0 := rp_t2 (i := 208) rfl rfl
theorem wd_449 : Cond.instanceMethod yX0_takeFrom ∈ rp_W0 := rp_t2 (i := 209) rfl rfl
theorem wd_450 : Cond.selects "RegretPegs$Ball" yX0_takeFrom yX0_takeFrom ∈ rp_W0 := rp_t2 (i := 210) rfl rfl
theorem wd_451 : Cond.code yX0_takeFrom prog_2_method_2_code 2 none ∈ rp_W0 := rp_t2 (i := 211) rfl rfl
theorem wd_452 : Cond.methodLink "RegretPegs$Ball" 34 ⟨"java/lang/System", "arraycopy", "(Ljava/lang/Object;ILjava/lang/Object;II)V"⟩ ∈ rp_W0 := rp_t2 (i := 212) rfl rfl
theorem wd_453 : Cond.methodLink "RegretPegsLaw" 76 yX6_last ∈ rp_W0 := rp_t2 (i := 213) rfl rfl
theorem wd_454 : Cond.instanceMethod yX6_last ∈ rp_W0 := rp_t2 (i := 214) rfl rfl
theorem wd_455 : Cond.selects "RegretPegs" yX6_last yX6_last ∈ rp_W0 := rp_t2 (i := 215) rfl rfl
theorem wd_456 : Cond.code yX6_last prog_1_method_16_code 3 (some .int) ∈ rp_W0 := rp_t2 (i := 216) rfl rfl
theorem wd_457 : Cond.methodLink "RegretPegs" 184 yX0_lastGuest ∈ rp_W0 := rp_t2 (i := 217) rfl rfl
theorem wd_458 : Cond.instanceMethod yX0_lastGuest ∈ rp_W0 := rp_t2 (i := 218) rfl rfl
theorem wd_459 : Cond.selects "RegretPegs$Ball" yX0_lastGuest yX0_lastGuest ∈ rp_W0 := rp_t2 (i := 219) rfl rfl
theorem wd_460 : Cond.code yX0_lastGuest prog_2_method_5_code 1 (some .int) ∈ rp_W0 := rp_t2 (i := 220) rfl rfl
theorem wd_461 : Cond.methodLink "RegretPegsLaw" 80 yX6_partner ∈ rp_W0 := rp_t2 (i := 221) rfl rfl
theorem wd_462 : Cond.instanceMethod yX6_partner ∈ rp_W0 := rp_t2 (i := 222) rfl rfl
theorem wd_463 : Cond.selects "RegretPegs" yX6_partner yX6_partner ∈ rp_W0 := rp_t2 (i := 223) rfl rfl
theorem wd_464 : Cond.code yX6_partner prog_1_method_17_code 8 (some .int) ∈ rp_W0 := rp_t2 (i := 224) rfl rfl
theorem wd_465 : Cond.methodLink "RegretPegs" 187 yX6_pegHavingDanced ∈ rp_W0 := rp_t2 (i := 225) rfl rfl
theorem wd_467 : Cond.instanceMethod yX6_pegHavingDanced ∈ rp_W0 := rp_t2 (i := 227) rfl rfl
theorem wd_468 : Cond.code yX6_pegHavingDanced prog_1_method_50_code 4 (some .int) ∈ rp_W0 := rp_t2 (i := 228) rfl rfl
theorem wd_469 : Cond.methodLink "RegretPegsLaw" 84 yX6_dances ∈ rp_W0 := rp_t2 (i := 229) rfl rfl
theorem wd_470 : Cond.instanceMethod yX6_dances ∈ rp_W0 := rp_t2 (i := 230) rfl rfl
theorem wd_471 : Cond.selects "RegretPegs" yX6_dances yX6_dances ∈ rp_W0 := rp_t2 (i := 231) rfl rfl
theorem wd_472 : Cond.code yX6_dances prog_1_method_18_code 6 (some .int) ∈ rp_W0 := rp_t2 (i := 232) rfl rfl
theorem wd_473 : Cond.methodLink "RegretPegs" 190 yX6_danceThatHelps ∈ rp_W0 := rp_t2 (i := 233) rfl rfl
theorem wd_475 : Cond.instanceMethod yX6_danceThatHelps ∈ rp_W0 := rp_t2 (i := 235) rfl rfl
theorem wd_476 : Cond.code yX6_danceThatHelps prog_1_method_51_code 7 (some .int) ∈ rp_W0 := rp_t2 (i := 236) rfl rfl
theorem wd_477 : Cond.methodLink "RegretPegs" 194 yX6_firstOfTwoThatHelp ∈ rp_W0 := rp_t2 (i := 237) rfl rfl
theorem wd_479 : Cond.instanceMethod yX6_firstOfTwoThatHelp ∈ rp_W0 := rp_t2 (i := 239) rfl rfl
theorem wd_480 : Cond.code yX6_firstOfTwoThatHelp prog_1_method_52_code 6 (some .int) ∈ rp_W0 := rp_t3 (i := 0) rfl rfl
theorem wd_481 : Cond.methodLink "RegretPegsLaw" 88 yX6_whoDanced ∈ rp_W0 := rp_t3 (i := 1) rfl rfl
theorem wd_482 : Cond.instanceMethod yX6_whoDanced ∈ rp_W0 := rp_t3 (i := 2) rfl rfl
theorem wd_483 : Cond.selects "RegretPegs" yX6_whoDanced yX6_whoDanced ∈ rp_W0 := rp_t3 (i := 3) rfl rfl
theorem wd_484 : Cond.code yX6_whoDanced prog_1_method_19_code 8 (some .int) ∈ rp_W0 := rp_t3 (i := 4) rfl rfl
theorem wd_485 : Cond.methodLink "RegretPegs" 197 yX6_isSheet ∈ rp_W0 := rp_t3 (i := 5) rfl rfl
theorem wd_486 : Cond.static yX6_isSheet ∈ rp_W0 := rp_t3 (i := 6) rfl rfl
theorem wd_487 : Cond.code yX6_isSheet prog_1_method_45_code 1 (some .boolean) ∈ rp_W0 := rp_t3 (i := 7) rfl rfl
theorem wd_488 : Cond.methodLink "RegretPegs" 204 yX4_tellsRueOf ∈ rp_W0 := rp_t3 (i := 8) rfl rfl
theorem wd_489 : Cond.instanceMethod yX4_tellsRueOf ∈ rp_W0 := rp_t3 (i := 9) rfl rfl
theorem wd_490 : Cond.selects "RegretPegs$Sheet" yX4_tellsRueOf yX4_tellsRueOf ∈ rp_W0 := rp_t3 (i := 10) rfl rfl
theorem wd_491 : Cond.code yX4_tellsRueOf prog_6_method_5_code 3 (some .boolean) ∈ rp_W0 := rp_t3 (i := 11) rfl rfl
theorem wd_492 : Cond.methodLink "RegretPegsLaw" 92 yX6_inOrder ∈ rp_W0 := rp_t3 (i := 12) rfl rfl
theorem wd_493 : Cond.instanceMethod yX6_inOrder ∈ rp_W0 := rp_t3 (i := 13) rfl rfl
theorem wd_494 : Cond.selects "RegretPegs" yX6_inOrder yX6_inOrder ∈ rp_W0 := rp_t3 (i := 14) rfl rfl
theorem wd_495 : Cond.code yX6_inOrder prog_1_method_20_code 2 (some .int) ∈ rp_W0 := rp_t3 (i := 15) rfl rfl
theorem wd_496 : Cond.methodLink "RegretPegs" 208 yX0_wrongPairs ∈ rp_W0 := rp_t3 (i := 16) rfl rfl
theorem wd_497 : Cond.instanceMethod yX0_wrongPairs ∈ rp_W0 := rp_t3 (i := 17) rfl rfl
theorem wd_498 : Cond.selects "RegretPegs$Ball" yX0_wrongPairs yX0_wrongPairs ∈ rp_W0 := rp_t3 (i := 18) rfl rfl
theorem wd_499 : Cond.code yX0_wrongPairs prog_2_method_13_code 4 (some .int) ∈ rp_W0 := rp_t3 (i := 19) rfl rfl
theorem wd_500 : Cond.methodLink "RegretPegsLaw" 97 yX6_wrongs ∈ rp_W0 := rp_t3 (i := 20) rfl rfl
theorem wd_501 : Cond.instanceMethod yX6_wrongs ∈ rp_W0 := rp_t3 (i := 21) rfl rfl
theorem wd_502 : Cond.selects "RegretPegs" yX6_wrongs yX6_wrongs ∈ rp_W0 := rp_t3 (i := 22) rfl rfl
theorem wd_503 : Cond.code yX6_wrongs prog_1_method_21_code 1 (some .int) ∈ rp_W0 := rp_t3 (i := 23) rfl rfl
theorem wd_504 : Cond.methodLink "RegretPegsLaw" 101 yX6_swap ∈ rp_W0 := rp_t3 (i := 24) rfl rfl
theorem wd_505 : Cond.instanceMethod yX6_swap ∈ rp_W0 := rp_t3 (i := 25) rfl rfl
theorem wd_506 : Cond.selects "RegretPegs" yX6_swap yX6_swap ∈ rp_W0 := rp_t3 (i := 26) rfl rfl
theorem wd_507 : Cond.code yX6_swap prog_1_method_22_code 6 (some .int) ∈ rp_W0 := rp_t3 (i := 27) rfl rfl
theorem wd_508 : Cond.methodLink "RegretPegsLaw" 105 yX6_go ∈ rp_W0 := rp_t3 (i := 28) rfl rfl
theorem wd_509 : Cond.instanceMethod yX6_go ∈ rp_W0 := rp_t3 (i := 29) rfl rfl
theorem wd_510 : Cond.selects "RegretPegs" yX6_go yX6_go ∈ rp_W0 := rp_t3 (i := 30) rfl rfl
theorem wd_511 : Cond.code yX6_go prog_1_method_23_code 7 (some .int) ∈ rp_W0 := rp_t3 (i := 31) rfl rfl
theorem wd_512 : Cond.methodLink "RegretPegsLaw" 109 yX6_allRue ∈ rp_W0 := rp_t3 (i := 32) rfl rfl
theorem wd_513 : Cond.instanceMethod yX6_allRue ∈ rp_W0 := rp_t3 (i := 33) rfl rfl
theorem wd_514 : Cond.selects "RegretPegs" yX6_allRue yX6_allRue ∈ rp_W0 := rp_t3 (i := 34) rfl rfl
theorem wd_515 : Cond.code yX6_allRue prog_1_method_24_code 2 (some .int) ∈ rp_W0 := rp_t3 (i := 35) rfl rfl
theorem wd_516 : Cond.methodLink "RegretPegsLaw" 113 yX6_sorriest ∈ rp_W0 := rp_t3 (i := 36) rfl rfl
theorem wd_517 : Cond.instanceMethod yX6_sorriest ∈ rp_W0 := rp_t3 (i := 37) rfl rfl
theorem wd_518 : Cond.selects "RegretPegs" yX6_sorriest yX6_sorriest ∈ rp_W0 := rp_t3 (i := 38) rfl rfl
theorem wd_519 : Cond.code yX6_sorriest prog_1_method_25_code 5 (some .int) ∈ rp_W0 := rp_t3 (i := 39) rfl rfl
theorem wd_520 : Cond.methodLink "RegretPegsLaw" 117 yX6_odds ∈ rp_W0 := rp_t3 (i := 40) rfl rfl
theorem wd_521 : Cond.instanceMethod yX6_odds ∈ rp_W0 := rp_t3 (i := 41) rfl rfl
theorem wd_522 : Cond.selects "RegretPegs" yX6_odds yX6_odds ∈ rp_W0 := rp_t3 (i := 42) rfl rfl
theorem wd_523 : Cond.code yX6_odds prog_1_method_26_code 8 (some .int) ∈ rp_W0 := rp_t3 (i := 43) rfl rfl
theorem wd_524 : Cond.methodLink "RegretPegs" 211 yX6_greatestCommon ∈ rp_W0 := rp_t3 (i := 44) rfl rfl
theorem wd_525 : Cond.static yX6_greatestCommon ∈ rp_W0 := rp_t3 (i := 45) rfl rfl
theorem wd_526 : Cond.code yX6_greatestCommon prog_1_method_53_code 3 (some .int) ∈ rp_W0 := rp_t3 (i := 46) rfl rfl
theorem wd_527 : Cond.methodLink "RegretPegsLaw" 121 yX6_seed ∈ rp_W0 := rp_t3 (i := 47) rfl rfl
theorem wd_528 : Cond.instanceMethod yX6_seed ∈ rp_W0 := rp_t3 (i := 48) rfl rfl
theorem wd_529 : Cond.selects "RegretPegs" yX6_seed yX6_seed ∈ rp_W0 := rp_t3 (i := 49) rfl rfl
theorem wd_530 : Cond.code yX6_seed prog_1_method_27_code 3 (some .int) ∈ rp_W0 := rp_t3 (i := 50) rfl rfl
theorem wd_531 : Cond.methodLink "RegretPegsLaw" 125 yX6_voice ∈ rp_W0 := rp_t3 (i := 51) rfl rfl
theorem wd_532 : Cond.instanceMethod yX6_voice ∈ rp_W0 := rp_t3 (i := 52) rfl rfl
theorem wd_533 : Cond.selects "RegretPegs" yX6_voice yX6_voice ∈ rp_W0 := rp_t3 (i := 53) rfl rfl
theorem wd_534 : Cond.code yX6_voice prog_1_method_28_code 4 (some .int) ∈ rp_W0 := rp_t3 (i := 54) rfl rfl
theorem wd_535 : Cond.methodLink "RegretPegs" 217 yX5_hear ∈ rp_W0 := rp_t3 (i := 55) rfl rfl
theorem wd_536 : Cond.instanceMethod yX5_hear ∈ rp_W0 := rp_t3 (i := 56) rfl rfl
theorem wd_537 : Cond.selects "RegretPegs$Voices" yX5_hear yX5_hear ∈ rp_W0 := rp_t3 (i := 57) rfl rfl
theorem wd_538 : Cond.code yX5_hear prog_7_method_2_code 6 (some .int) ∈ rp_W0 := rp_t3 (i := 58) rfl rfl
theorem wd_539 : Cond.methodLink "RegretPegs$Voices" 28 yX5_speak ∈ rp_W0 := rp_t3 (i := 59) rfl rfl
theorem wd_541 : Cond.instanceMethod yX5_speak ∈ rp_W0 := rp_t3 (i := 61) rfl rfl
theorem wd_542 : Cond.code yX5_speak prog_7_method_3_code 8 (some .int) ∈ rp_W0 := rp_t3 (i := 62) rfl rfl
theorem wd_545 : Cond.methodLink "RegretPegs$Voices" 35 yX5_note ∈ rp_W0 := rp_t3 (i := 65) rfl rfl
theorem wd_547 : Cond.instanceMethod yX5_note ∈ rp_W0 := rp_t3 (i := 67) rfl rfl
theorem wd_548 : Cond.code yX5_note prog_7_method_4_code 2 none ∈ rp_W0 := rp_t3 (i := 68) rfl rfl
theorem wd_550 : Cond.methodLink "RegretPegs$Voices" 42 yX5_answer ∈ rp_W0 := rp_t3 (i := 70) rfl rfl
theorem wd_552 : Cond.instanceMethod yX5_answer ∈ rp_W0 := rp_t3 (i := 72) rfl rfl
theorem wd_553 : Cond.code yX5_answer prog_7_method_5_code 5 (some .int) ∈ rp_W0 := rp_t3 (i := 73) rfl rfl
theorem wd_554 : Cond.methodLink "RegretPegsLaw" 129 yX6_trace ∈ rp_W0 := rp_t3 (i := 74) rfl rfl
theorem wd_555 : Cond.instanceMethod yX6_trace ∈ rp_W0 := rp_t3 (i := 75) rfl rfl
theorem wd_556 : Cond.selects "RegretPegs" yX6_trace yX6_trace ∈ rp_W0 := rp_t3 (i := 76) rfl rfl
theorem wd_557 : Cond.code yX6_trace prog_1_method_29_code 2 (some .int) ∈ rp_W0 := rp_t3 (i := 77) rfl rfl
theorem wd_558 : Cond.methodLink "RegretPegsLaw" 133 yX6_sheet ∈ rp_W0 := rp_t3 (i := 78) rfl rfl
theorem wd_559 : Cond.instanceMethod yX6_sheet ∈ rp_W0 := rp_t3 (i := 79) rfl rfl
theorem wd_560 : Cond.selects "RegretPegs" yX6_sheet yX6_sheet ∈ rp_W0 := rp_t3 (i := 80) rfl rfl
theorem wd_561 : Cond.code yX6_sheet prog_1_method_30_code 4 (some .int) ∈ rp_W0 := rp_t3 (i := 81) rfl rfl
theorem wd_562 : Cond.methodLink "RegretPegs" 227 yX4_lay ∈ rp_W0 := rp_t3 (i := 82) rfl rfl
theorem wd_563 : Cond.instanceMethod yX4_lay ∈ rp_W0 := rp_t3 (i := 83) rfl rfl
theorem wd_564 : Cond.selects "RegretPegs$Sheet" yX4_lay yX4_lay ∈ rp_W0 := rp_t3 (i := 84) rfl rfl
theorem wd_565 : Cond.code yX4_lay prog_6_method_2_code 4 none ∈ rp_W0 := rp_t3 (i := 85) rfl rfl
theorem wd_566 : Cond.methodLink "RegretPegsLaw" 137 yX6_put ∈ rp_W0 := rp_t3 (i := 86) rfl rfl
theorem wd_567 : Cond.instanceMethod yX6_put ∈ rp_W0 := rp_t3 (i := 87) rfl rfl
theorem wd_568 : Cond.selects "RegretPegs" yX6_put yX6_put ∈ rp_W0 := rp_t3 (i := 88) rfl rfl
theorem wd_569 : Cond.code yX6_put prog_1_method_31_code 4 (some .int) ∈ rp_W0 := rp_t3 (i := 89) rfl rfl
theorem wd_570 : Cond.methodLink "RegretPegs" 230 yX4_write ∈ rp_W0 := rp_t3 (i := 90) rfl rfl
theorem wd_571 : Cond.instanceMethod yX4_write ∈ rp_W0 := rp_t3 (i := 91) rfl rfl
theorem wd_572 : Cond.selects "RegretPegs$Sheet" yX4_write yX4_write ∈ rp_W0 := rp_t3 (i := 92) rfl rfl
theorem wd_573 : Cond.code yX4_write prog_6_method_3_code 3 none ∈ rp_W0 := rp_t3 (i := 93) rfl rfl
theorem wd_574 : Cond.methodLink "RegretPegsLaw" 141 yX6_move ∈ rp_W0 := rp_t3 (i := 94) rfl rfl
theorem wd_575 : Cond.instanceMethod yX6_move ∈ rp_W0 := rp_t3 (i := 95) rfl rfl
theorem wd_576 : Cond.selects "RegretPegs" yX6_move yX6_move ∈ rp_W0 := rp_t3 (i := 96) rfl rfl
theorem wd_577 : Cond.code yX6_move prog_1_method_32_code 8 (some .int) ∈ rp_W0 := rp_t3 (i := 97) rfl rfl
theorem wd_578 : Cond.methodLink "RegretPegs" 233 yX4_hasStretch ∈ rp_W0 := rp_t3 (i := 98) rfl rfl
theorem wd_579 : Cond.instanceMethod yX4_hasStretch ∈ rp_W0 := rp_t3 (i := 99) rfl rfl
theorem wd_580 : Cond.selects "RegretPegs$Sheet" yX4_hasStretch yX4_hasStretch ∈ rp_W0 := rp_t3 (i := 100) rfl rfl
theorem wd_581 : Cond.code yX4_hasStretch prog_6_method_4_code 3 (some .boolean) ∈ rp_W0 := rp_t3 (i := 101) rfl rfl
theorem wd_582 : Cond.methodLink "RegretPegs" 239 ⟨"java/lang/System", "arraycopy", "(Ljava/lang/Object;ILjava/lang/Object;II)V"⟩ ∈ rp_W0 := rp_t3 (i := 102) rfl rfl
theorem wd_583 : Cond.methodLink "RegretPegsLaw" 146 yX6_rues ∈ rp_W0 := rp_t3 (i := 103) rfl rfl
theorem wd_584 : Cond.instanceMethod yX6_rues ∈ rp_W0 := rp_t3 (i := 104) rfl rfl
theorem wd_585 : Cond.selects "RegretPegs" yX6_rues yX6_rues ∈ rp_W0 := rp_t3 (i := 105) rfl rfl
theorem wd_586 : Cond.code yX6_rues prog_1_method_33_code 5 (some .int) ∈ rp_W0 := rp_t3 (i := 106) rfl rfl
theorem wd_587 : Cond.methodLink "RegretPegsLaw" 150 yX6_judge ∈ rp_W0 := rp_t3 (i := 107) rfl rfl
theorem wd_588 : Cond.instanceMethod yX6_judge ∈ rp_W0 := rp_t3 (i := 108) rfl rfl
theorem wd_589 : Cond.selects "RegretPegs" yX6_judge yX6_judge ∈ rp_W0 := rp_t3 (i := 109) rfl rfl
theorem wd_590 : Cond.code yX6_judge prog_1_method_34_code 5 (some .int) ∈ rp_W0 := rp_t3 (i := 110) rfl rfl
theorem wd_591 : Cond.methodLink "RegretPegsLaw" 154 yX6_image ∈ rp_W0 := rp_t3 (i := 111) rfl rfl
theorem wd_592 : Cond.instanceMethod yX6_image ∈ rp_W0 := rp_t3 (i := 112) rfl rfl
theorem wd_593 : Cond.selects "RegretPegs" yX6_image yX6_image ∈ rp_W0 := rp_t3 (i := 113) rfl rfl
theorem wd_594 : Cond.code yX6_image prog_1_method_35_code 1 (some .int) ∈ rp_W0 := rp_t3 (i := 114) rfl rfl
theorem wd_595 : Cond.methodLink "RegretPegs" 250 yX1_takeFrom ∈ rp_W0 := rp_t3 (i := 115) rfl rfl
theorem wd_596 : Cond.instanceMethod yX1_takeFrom ∈ rp_W0 := rp_t3 (i := 116) rfl rfl
theorem wd_597 : Cond.selects "RegretPegs$Evening" yX1_takeFrom yX1_takeFrom ∈ rp_W0 := rp_t3 (i := 117) rfl rfl
theorem wd_598 : Cond.code yX1_takeFrom prog_3_method_2_code 2 none ∈ rp_W0 := rp_t3 (i := 118) rfl rfl
theorem wd_599 : Cond.methodLink "RegretPegs$Evening" 51 yX0_takeFrom ∈ rp_W0 := rp_t3 (i := 119) rfl rfl
theorem wd_600 : Cond.methodLink "RegretPegs$Evening" 61 yX2_takeCode ∈ rp_W0 := rp_t3 (i := 120) rfl rfl
theorem wd_601 : Cond.methodLink "RegretPegs$Evening" 65 ⟨"java/lang/System", "arraycopy", "(Ljava/lang/Object;ILjava/lang/Object;II)V"⟩ ∈ rp_W0 := rp_t3 (i := 121) rfl rfl
theorem wd_602 : Cond.methodLink "RegretPegsLaw" 158 yX6_restore ∈ rp_W0 := rp_t3 (i := 122) rfl rfl
theorem wd_603 : Cond.instanceMethod yX6_restore ∈ rp_W0 := rp_t3 (i := 123) rfl rfl
theorem wd_604 : Cond.selects "RegretPegs" yX6_restore yX6_restore ∈ rp_W0 := rp_t3 (i := 124) rfl rfl
theorem wd_605 : Cond.code yX6_restore prog_1_method_36_code 1 (some .int) ∈ rp_W0 := rp_t3 (i := 125) rfl rfl
theorem wd_606 : Cond.methodLink "RegretPegsLaw" 162 yX6_tell ∈ rp_W0 := rp_t3 (i := 126) rfl rfl
theorem wd_607 : Cond.instanceMethod yX6_tell ∈ rp_W0 := rp_t3 (i := 127) rfl rfl
theorem wd_608 : Cond.selects "RegretPegs" yX6_tell yX6_tell ∈ rp_W0 := rp_t3 (i := 128) rfl rfl
theorem wd_609 : Cond.code yX6_tell prog_1_method_37_code 2 (some .int) ∈ rp_W0 := rp_t3 (i := 129) rfl rfl
theorem wd_610 : Cond.methodLink "RegretPegsLaw" 166 yX6_check ∈ rp_W0 := rp_t3 (i := 130) rfl rfl
theorem wd_611 : Cond.instanceMethod yX6_check ∈ rp_W0 := rp_t3 (i := 131) rfl rfl
theorem wd_612 : Cond.selects "RegretPegs" yX6_check yX6_check ∈ rp_W0 := rp_t3 (i := 132) rfl rfl
theorem wd_613 : Cond.code yX6_check prog_1_method_38_code 3 (some .int) ∈ rp_W0 := rp_t3 (i := 133) rfl rfl
theorem wd_614 : Cond.methodLink "RegretPegsLaw" 170 yX6_count ∈ rp_W0 := rp_t3 (i := 134) rfl rfl
theorem wd_615 : Cond.instanceMethod yX6_count ∈ rp_W0 := rp_t3 (i := 135) rfl rfl
theorem wd_616 : Cond.selects "RegretPegs" yX6_count yX6_count ∈ rp_W0 := rp_t3 (i := 136) rfl rfl
theorem wd_617 : Cond.code yX6_count prog_1_method_39_code 2 (some .int) ∈ rp_W0 := rp_t3 (i := 137) rfl rfl
theorem wd_618 : Cond.methodLink "RegretPegs" 259 yX0_dancedTogether ∈ rp_W0 := rp_t3 (i := 138) rfl rfl
theorem wd_619 : Cond.instanceMethod yX0_dancedTogether ∈ rp_W0 := rp_t3 (i := 139) rfl rfl
theorem wd_620 : Cond.selects "RegretPegs$Ball" yX0_dancedTogether yX0_dancedTogether ∈ rp_W0 := rp_t3 (i := 140) rfl rfl
theorem wd_621 : Cond.code yX0_dancedTogether prog_2_method_15_code 3 (some .int) ∈ rp_W0 := rp_t3 (i := 141) rfl rfl
theorem wd_622 : Cond.methodLink "RegretPegs" 262 yX0_idleSet ∈ rp_W0 := rp_t3 (i := 142) rfl rfl
theorem wd_623 : Cond.instanceMethod yX0_idleSet ∈ rp_W0 := rp_t3 (i := 143) rfl rfl
theorem wd_624 : Cond.selects "RegretPegs$Ball" yX0_idleSet yX0_idleSet ∈ rp_W0 := rp_t3 (i := 144) rfl rfl
theorem wd_625 : Cond.code yX0_idleSet prog_2_method_16_code 3 (some .int) ∈ rp_W0 := rp_t3 (i := 145) rfl rfl
theorem wd_626 : Cond.methodLink "RegretPegsLaw" 174 yX6_told ∈ rp_W0 := rp_t3 (i := 146) rfl rfl
theorem wd_627 : Cond.instanceMethod yX6_told ∈ rp_W0 := rp_t3 (i := 147) rfl rfl
theorem wd_628 : Cond.selects "RegretPegs" yX6_told yX6_told ∈ rp_W0 := rp_t3 (i := 148) rfl rfl
theorem wd_629 : Cond.code yX6_told prog_1_method_40_code 2 (some .int) ∈ rp_W0 := rp_t3 (i := 149) rfl rfl
theorem wd_630 : Cond.classLink "RegretPegsLaw" 10 "RegretPegsModel" ∈ rp_W0 := rp_t3 (i := 150) rfl rfl
theorem wd_631 : Cond.instantiable "RegretPegsModel" 24 ∈ rp_W0 := rp_t3 (i := 151) rfl rfl
theorem wd_632 : Cond.methodLink "RegretPegsLaw" 12 yX7_init ∈ rp_W0 := rp_t3 (i := 152) rfl rfl
theorem wd_633 : Cond.instanceMethod yX7_init ∈ rp_W0 := rp_t3 (i := 153) rfl rfl
theorem wd_634 : Cond.code yX7_init prog_9_method_1_code 1 none ∈ rp_W0 := rp_t3 (i := 154) rfl rfl
theorem wd_635 : Cond.methodLink "RegretPegsModel" 3 ⟨"java/lang/Object", "<init>", "()V"⟩ ∈ rp_W0 := rp_t3 (i := 155) rfl rfl
theorem wd_636 : Cond.classLink "RegretPegsModel" 25 "java/lang/String" ∈ rp_W0 := rp_t3 (i := 156) rfl rfl
theorem wd_640 : Cond.fieldLink "RegretPegsModel" 9 "RegretPegsModel" "now" "[I" ∈ rp_W0 := rp_t3 (i := 160) rfl rfl
theorem wd_641 : Cond.fieldLink "RegretPegsModel" 13 "RegretPegsModel" "kept" "[I" ∈ rp_W0 := rp_t3 (i := 161) rfl rfl
theorem wd_642 : Cond.fieldLink "RegretPegsModel" 16 "RegretPegsModel" "aside" "[I" ∈ rp_W0 := rp_t3 (i := 162) rfl rfl
theorem wd_643 : Cond.fieldLink "RegretPegsModel" 293 "RegretPegsModel" "images" "I" ∈ rp_W0 := rp_t3 (i := 163) rfl rfl
theorem wd_644 : Cond.fieldLink "RegretPegsModel" 19 "RegretPegsModel" "errors" "[I" ∈ rp_W0 := rp_t3 (i := 164) rfl rfl
theorem wd_645 : Cond.fieldLink "RegretPegsModel" 22 "RegretPegsModel" "growing" "[I" ∈ rp_W0 := rp_t3 (i := 165) rfl rfl
theorem wd_646 : Cond.fieldLink "RegretPegsModel" 31 "RegretPegsModel" "NAMED" "[Ljava/lang/String;" ∈ rp_W0 := rp_t3 (i := 166) rfl rfl
theorem wd_647 : Cond.fieldLink "RegretPegsModel" 89 "RegretPegsModel" "at" "I" ∈ rp_W0 := rp_t3 (i := 167) rfl rfl
theorem wd_648 : Cond.fieldLink "RegretPegsModel" 133 "RegretPegsModel" "open" "I" ∈ rp_W0 := rp_t3 (i := 168) rfl rfl
theorem wd_649 : Cond.fieldLink "RegretPegsModel" 123 "RegretPegsModel" "use" "I" ∈ rp_W0 := rp_t3 (i := 169) rfl rfl
theorem wd_650 : Cond.fieldLink "RegretPegsModel" 85 "RegretPegsModel" "isWrong" "Z" ∈ rp_W0 := rp_t3 (i := 170) rfl rfl
theorem wd_651 : Cond.fieldLink "RegretPegsModel" 35 "RegretPegsModel" "code" "[I" ∈ rp_W0 := rp_t3 (i := 171) rfl rfl
theorem wd_652 : Cond.fieldLink "RegretPegsModel" 97 "RegretPegsModel" "coded" "I" ∈ rp_W0 := rp_t3 (i := 172) rfl rfl
theorem wd_653 : Cond.fieldLink "RegretPegsModel" 38 "RegretPegsModel" "named" "[I" ∈ rp_W0 := rp_t3 (i := 173) rfl rfl
theorem wd_654 : Cond.fieldLink "RegretPegsModel" 41 "RegretPegsModel" "pile" "[I" ∈ rp_W0 := rp_t3 (i := 174) rfl rfl
theorem wd_655 : Cond.fieldLink "RegretPegsModel" 44 "RegretPegsModel" "trace" "[I" ∈ rp_W0 := rp_t3 (i := 175) rfl rfl
theorem wd_656 : Cond.fieldLink "RegretPegsModel" 263 "RegretPegsModel" "traced" "I" ∈ rp_W0 := rp_t3 (i := 176) rfl rfl
theorem wd_657 : Cond.fieldLink "RegretPegsModel" 266 "RegretPegsModel" "kind" "I" ∈ rp_W0 := rp_t3 (i := 177) rfl rfl
theorem wd_658 : Cond.fieldLink "RegretPegsModel" 272 "RegretPegsModel" "number" "I" ∈ rp_W0 := rp_t3 (i := 178) rfl rfl
theorem wd_659 : Cond.fieldLink "RegretPegsModel" 281 "RegretPegsModel" "told" "I" ∈ rp_W0 := rp_t3 (i := 179) rfl rfl
theorem wd_660 : Cond.fieldLink "RegretPegsModel" 47 "RegretPegsModel" "widths" "[I" ∈ rp_W0 := rp_t3 (i := 180) rfl rfl
theorem wd_661 : Cond.fieldLink "RegretPegsModel" 50 "RegretPegsModel" "sizes" "[I" ∈ rp_W0 := rp_t3 (i := 181) rfl rfl
theorem wd_662 : Cond.fieldLink "RegretPegsModel" 53 "RegretPegsModel" "numbers" "[I" ∈ rp_W0 := rp_t3 (i := 182) rfl rfl
theorem wd_663 : Cond.fieldLink "RegretPegsModel" 56 "RegretPegsModel" "carried" "[I" ∈ rp_W0 := rp_t3 (i := 183) rfl rfl
theorem wd_664 : Cond.laysFinal "RegretPegsModel" "RegretPegsModel" "now" "[I" ∈ rp_W0 := rp_t3 (i := 184) rfl rfl
theorem wd_666 : Cond.laysFinal "RegretPegsModel" "RegretPegsModel" "kept" "[I" ∈ rp_W0 := rp_t3 (i := 186) rfl rfl
theorem wd_668 : Cond.laysFinal "RegretPegsModel" "RegretPegsModel" "aside" "[I" ∈ rp_W0 := rp_t3 (i := 188) rfl rfl
theorem wd_670 : Cond.lays "RegretPegsModel" "RegretPegsModel" "images" "I" ∈ rp_W0 := rp_t3 (i := 190) rfl rfl
theorem wd_672 : Cond.laysFinal "RegretPegsModel" "RegretPegsModel" "errors" "[I" ∈ rp_W0 := rp_t3 (i := 192) rfl rfl
theorem wd_674 : Cond.laysFinal "RegretPegsModel" "RegretPegsModel" "growing" "[I" ∈ rp_W0 := rp_t3 (i := 194) rfl rfl
theorem wd_676 : Cond.laysFinal "RegretPegsModel" "RegretPegsModel" "NAMED" "[Ljava/lang/String;" ∈ rp_W0 := rp_t3 (i := 196) rfl rfl
theorem wd_678 : Cond.lays "RegretPegsModel" "RegretPegsModel" "at" "I" ∈ rp_W0 := rp_t3 (i := 198) rfl rfl
theorem wd_680 : Cond.lays "RegretPegsModel" "RegretPegsModel" "open" "I" ∈ rp_W0 := rp_t3 (i := 200) rfl rfl
theorem wd_682 : Cond.lays "RegretPegsModel" "RegretPegsModel" "use" "I" ∈ rp_W0 := rp_t3 (i := 202) rfl rfl
theorem wd_684 : Cond.lays "RegretPegsModel" "RegretPegsModel" "isWrong" "Z" ∈ rp_W0 := rp_t3 (i := 204) rfl rfl
theorem wd_686 : Cond.laysFinal "RegretPegsModel" "RegretPegsModel" "code" "[I" ∈ rp_W0 := rp_t3 (i := 206) rfl rfl
theorem wd_688 : Cond.lays "RegretPegsModel" "RegretPegsModel" "coded" "I" ∈ rp_W0 := rp_t3 (i := 208) rfl rfl
theorem wd_690 : Cond.laysFinal "RegretPegsModel" "RegretPegsModel" "named" "[I" ∈ rp_W0 := rp_t3 (i := 210) rfl rfl
theorem wd_692 : Cond.laysFinal "RegretPegsModel" "RegretPegsModel" "pile" "[I" ∈ rp_W0 := rp_t3 (i := 212) rfl rfl
theorem wd_694 : Cond.laysFinal "RegretPegsModel" "RegretPegsModel" "trace" "[I" ∈ rp_W0 := rp_t3 (i := 214) rfl rfl
theorem wd_696 : Cond.lays "RegretPegsModel" "RegretPegsModel" "traced" "I" ∈ rp_W0 := rp_t3 (i := 216) rfl rfl
theorem wd_698 : Cond.lays "RegretPegsModel" "RegretPegsModel" "kind" "I" ∈ rp_W0 := rp_t3 (i := 218) rfl rfl
theorem wd_700 : Cond.lays "RegretPegsModel" "RegretPegsModel" "number" "I" ∈ rp_W0 := rp_t3 (i := 220) rfl rfl
theorem wd_702 : Cond.lays "RegretPegsModel" "RegretPegsModel" "told" "I" ∈ rp_W0 := rp_t3 (i := 222) rfl rfl
theorem wd_704 : Cond.laysFinal "RegretPegsModel" "RegretPegsModel" "widths" "[I" ∈ rp_W0 := rp_t3 (i := 224) rfl rfl
theorem wd_706 : Cond.laysFinal "RegretPegsModel" "RegretPegsModel" "sizes" "[I" ∈ rp_W0 := rp_t3 (i := 226) rfl rfl
theorem wd_708 : Cond.laysFinal "RegretPegsModel" "RegretPegsModel" "numbers" "[I" ∈ rp_W0 := rp_t3 (i := 228) rfl rfl
theorem wd_710 : Cond.laysFinal "RegretPegsModel" "RegretPegsModel" "carried" "[I" ∈ rp_W0 := rp_t3 (i := 230) rfl rfl
theorem wd_713 : Cond.methodLink "RegretPegsLaw" 50 yX7_feed ∈ rp_W0 := rp_t3 (i := 233) rfl rfl
theorem wd_714 : Cond.instanceMethod yX7_feed ∈ rp_W0 := rp_t3 (i := 234) rfl rfl
theorem wd_715 : Cond.selects "RegretPegsModel" yX7_feed yX7_feed ∈ rp_W0 := rp_t3 (i := 235) rfl rfl
theorem wd_716 : Cond.code yX7_feed prog_9_method_8_code 5 (some .int) ∈ rp_W0 := rp_t3 (i := 236) rfl rfl
theorem wd_717 : Cond.methodLink "RegretPegsModel" 73 yX7_within ∈ rp_W0 := rp_t3 (i := 237) rfl rfl
theorem wd_718 : Cond.static yX7_within ∈ rp_W0 := rp_t3 (i := 238) rfl rfl
theorem wd_719 : Cond.code yX7_within prog_9_method_3_code 3 (some .boolean) ∈ rp_W0 := rp_t3 (i := 239) rfl rfl
theorem wd_720 : Cond.constant "RegretPegsModel" 77 (-1000000001) ∈ rp_W0 := rp_t4 (i := 0) rfl rfl
theorem wd_721 : Cond.methodLink "RegretPegsModel" 78 yX7_finding ∈ rp_W0 := rp_t4 (i := 1) rfl rfl
theorem wd_723 : Cond.instanceMethod yX7_finding ∈ rp_W0 := rp_t4 (i := 3) rfl rfl
theorem wd_724 : Cond.code yX7_finding prog_9_method_2_code 2 (some .int) ∈ rp_W0 := rp_t4 (i := 4) rfl rfl
theorem wd_725 : Cond.constant "RegretPegsModel" 59 (-1000000000) ∈ rp_W0 := rp_t4 (i := 5) rfl rfl
theorem wd_726 : Cond.constant "RegretPegsModel" 82 (-1000000004) ∈ rp_W0 := rp_t4 (i := 6) rfl rfl
theorem wd_727 : Cond.constantLong "RegretPegsModel" 83 255 ∈ rp_W0 := rp_t4 (i := 7) rfl rfl
theorem wd_728 : Cond.methodLink "RegretPegsLaw" 54 yX7_text ∈ rp_W0 := rp_t4 (i := 8) rfl rfl
theorem wd_729 : Cond.instanceMethod yX7_text ∈ rp_W0 := rp_t4 (i := 9) rfl rfl
theorem wd_730 : Cond.selects "RegretPegsModel" yX7_text yX7_text ∈ rp_W0 := rp_t4 (i := 10) rfl rfl
theorem wd_731 : Cond.code yX7_text prog_9_method_19_code 3 (some .int) ∈ rp_W0 := rp_t4 (i := 11) rfl rfl
theorem wd_732 : Cond.methodLink "RegretPegsModel" 136 yX7_either ∈ rp_W0 := rp_t4 (i := 12) rfl rfl
theorem wd_734 : Cond.instanceMethod yX7_either ∈ rp_W0 := rp_t4 (i := 14) rfl rfl
theorem wd_735 : Cond.code yX7_either prog_9_method_12_code 1 none ∈ rp_W0 := rp_t4 (i := 15) rfl rfl
theorem wd_736 : Cond.methodLink "RegretPegsModel" 100 yX7_both ∈ rp_W0 := rp_t4 (i := 16) rfl rfl
theorem wd_738 : Cond.instanceMethod yX7_both ∈ rp_W0 := rp_t4 (i := 18) rfl rfl
theorem wd_739 : Cond.code yX7_both prog_9_method_13_code 1 none ∈ rp_W0 := rp_t4 (i := 19) rfl rfl
theorem wd_740 : Cond.methodLink "RegretPegsModel" 111 yX7_compared ∈ rp_W0 := rp_t4 (i := 20) rfl rfl
theorem wd_742 : Cond.instanceMethod yX7_compared ∈ rp_W0 := rp_t4 (i := 22) rfl rfl
theorem wd_743 : Cond.code yX7_compared prog_9_method_14_code 2 none ∈ rp_W0 := rp_t4 (i := 23) rfl rfl
theorem wd_744 : Cond.methodLink "RegretPegsModel" 114 yX7_sum ∈ rp_W0 := rp_t4 (i := 24) rfl rfl
theorem wd_746 : Cond.instanceMethod yX7_sum ∈ rp_W0 := rp_t4 (i := 26) rfl rfl
theorem wd_747 : Cond.code yX7_sum prog_9_method_15_code 2 none ∈ rp_W0 := rp_t4 (i := 27) rfl rfl
theorem wd_748 : Cond.methodLink "RegretPegsModel" 117 yX7_product ∈ rp_W0 := rp_t4 (i := 28) rfl rfl
theorem wd_750 : Cond.instanceMethod yX7_product ∈ rp_W0 := rp_t4 (i := 30) rfl rfl
theorem wd_751 : Cond.code yX7_product prog_9_method_16_code 2 none ∈ rp_W0 := rp_t4 (i := 31) rfl rfl
theorem wd_752 : Cond.methodLink "RegretPegsModel" 120 yX7_one ∈ rp_W0 := rp_t4 (i := 32) rfl rfl
theorem wd_754 : Cond.instanceMethod yX7_one ∈ rp_W0 := rp_t4 (i := 34) rfl rfl
theorem wd_755 : Cond.code yX7_one prog_9_method_18_code 4 none ∈ rp_W0 := rp_t4 (i := 35) rfl rfl
theorem wd_756 : Cond.methodLink "RegretPegsModel" 93 yX7_here ∈ rp_W0 := rp_t4 (i := 36) rfl rfl
theorem wd_758 : Cond.instanceMethod yX7_here ∈ rp_W0 := rp_t4 (i := 38) rfl rfl
theorem wd_759 : Cond.code yX7_here prog_9_method_9_code 1 (some .int) ∈ rp_W0 := rp_t4 (i := 39) rfl rfl
theorem wd_760 : Cond.methodLink "RegretPegsModel" 107 yX7_codes ∈ rp_W0 := rp_t4 (i := 40) rfl rfl
theorem wd_762 : Cond.instanceMethod yX7_codes ∈ rp_W0 := rp_t4 (i := 42) rfl rfl
theorem wd_763 : Cond.code yX7_codes prog_9_method_11_code 2 none ∈ rp_W0 := rp_t4 (i := 43) rfl rfl
theorem wd_764 : Cond.methodLink "RegretPegsModel" 103 yX7_takes ∈ rp_W0 := rp_t4 (i := 44) rfl rfl
theorem wd_766 : Cond.instanceMethod yX7_takes ∈ rp_W0 := rp_t4 (i := 46) rfl rfl
theorem wd_767 : Cond.code yX7_takes prog_9_method_10_code 3 (some .boolean) ∈ rp_W0 := rp_t4 (i := 47) rfl rfl
theorem wd_768 : Cond.methodLink "RegretPegsModel" 139 yX7_nameOf ∈ rp_W0 := rp_t4 (i := 48) rfl rfl
theorem wd_770 : Cond.instanceMethod yX7_nameOf ∈ rp_W0 := rp_t4 (i := 50) rfl rfl
theorem wd_771 : Cond.code yX7_nameOf prog_9_method_17_code 4 (some .int) ∈ rp_W0 := rp_t4 (i := 51) rfl rfl
theorem wd_772 : Cond.methodLink "RegretPegsModel" 126 yJ0_length_8abf5 ∈ rp_W0 := rp_t4 (i := 52) rfl rfl
theorem wd_773 : Cond.instanceMethod yJ0_length_8abf5 ∈ rp_W0 := rp_t4 (i := 53) rfl rfl
theorem wd_774 : Cond.selects "java/lang/String" yJ0_length_8abf5 yJ0_length_8abf5 ∈ rp_W0 := rp_t4 (i := 54) rfl rfl
theorem wd_775 : Cond.code yJ0_length_8abf5 prog_11_method_54_code 1 (some .int) ∈ rp_W0 := rp_t4 (i := 55) rfl rfl
theorem wd_776 : Cond.methodLink "java/lang/String" 335 yJ0_coder_7d493 ∈ rp_W0 := rp_t4 (i := 56) rfl rfl
theorem wd_777 : Cond.instanceMethod yJ0_coder_7d493 ∈ rp_W0 := rp_t4 (i := 57) rfl rfl
theorem wd_778 : Cond.selects "java/lang/String" yJ0_coder_7d493 yJ0_coder_7d493 ∈ rp_W0 := rp_t4 (i := 58) rfl rfl
theorem wd_779 : Cond.code yJ0_coder_7d493 prog_11_method_152_code 1 (some .byte) ∈ rp_W0 := rp_t4 (i := 59) rfl rfl
theorem wd_780 : Cond.fieldLink "java/lang/String" 38 "java/lang/String" "COMPACT_STRINGS" "Z" ∈ rp_W0 := rp_t4 (i := 60) rfl rfl
theorem wd_782 : Cond.methodLink "RegretPegsModel" 129 yJ0_charAt_5068e ∈ rp_W0 := rp_t4 (i := 62) rfl rfl
theorem wd_783 : Cond.instanceMethod yJ0_charAt_5068e ∈ rp_W0 := rp_t4 (i := 63) rfl rfl
theorem wd_784 : Cond.selects "java/lang/String" yJ0_charAt_5068e yJ0_charAt_5068e ∈ rp_W0 := rp_t4 (i := 64) rfl rfl
theorem wd_785 : Cond.code yJ0_charAt_5068e prog_11_method_56_code 2 (some .char) ∈ rp_W0 := rp_t4 (i := 65) rfl rfl
theorem wd_786 : Cond.methodLink "java/lang/String" 492 yJ0_isLatin1_aae02 ∈ rp_W0 := rp_t4 (i := 66) rfl rfl
theorem wd_787 : Cond.instanceMethod yJ0_isLatin1_aae02 ∈ rp_W0 := rp_t4 (i := 67) rfl rfl
theorem wd_788 : Cond.selects "java/lang/String" yJ0_isLatin1_aae02 yJ0_isLatin1_aae02 ∈ rp_W0 := rp_t4 (i := 68) rfl rfl
theorem wd_789 : Cond.code yJ0_isLatin1_aae02 prog_11_method_154_code 1 (some .boolean) ∈ rp_W0 := rp_t4 (i := 69) rfl rfl
theorem wd_790 : Cond.methodLink "java/lang/String" 495 yJ1_charAt_3b067 ∈ rp_W0 := rp_t4 (i := 70) rfl rfl
theorem wd_791 : Cond.static yJ1_charAt_3b067 ∈ rp_W0 := rp_t4 (i := 71) rfl rfl
theorem wd_792 : Cond.code yJ1_charAt_3b067 prog_12_method_2_code 2 (some .char) ∈ rp_W0 := rp_t4 (i := 72) rfl rfl
theorem wd_793 : Cond.methodLink "java/lang/StringLatin1" 9 yJ0_checkIndex_df160 ∈ rp_W0 := rp_t4 (i := 73) rfl rfl
theorem wd_794 : Cond.static yJ0_checkIndex_df160 ∈ rp_W0 := rp_t4 (i := 74) rfl rfl
theorem wd_795 : Cond.code yJ0_checkIndex_df160 prog_11_method_155_code 2 none ∈ rp_W0 := rp_t4 (i := 75) rfl rfl
theorem wd_796 : Cond.fieldLink "java/lang/String" 1053 "jdk/internal/util/Preconditions" "SIOOBE_FORMATTER" "Ljava/util/function/BiFunction;" ∈ rp_W0 := rp_t4 (i := 76) rfl rfl
theorem wd_798 : Cond.methodLink "java/lang/String" 1059 yJ3_checkIndex_8e157 ∈ rp_W0 := rp_t4 (i := 78) rfl rfl
theorem wd_799 : Cond.static yJ3_checkIndex_8e157 ∈ rp_W0 := rp_t4 (i := 79) rfl rfl
theorem wd_800 : Cond.code yJ3_checkIndex_8e157 prog_15_method_11_code 3 (some .int) ∈ rp_W0 := rp_t4 (i := 80) rfl rfl
theorem wd_801 : Cond.methodLink "java/lang/String" 498 yJ2_charAt_3b067 ∈ rp_W0 := rp_t4 (i := 81) rfl rfl
theorem wd_802 : Cond.static yJ2_charAt_3b067 ∈ rp_W0 := rp_t4 (i := 82) rfl rfl
theorem wd_803 : Cond.code yJ2_charAt_3b067 prog_13_method_83_code 2 (some .char) ∈ rp_W0 := rp_t4 (i := 83) rfl rfl
theorem wd_804 : Cond.methodLink "java/lang/StringUTF16" 67 yJ2_checkIndex_2214a ∈ rp_W0 := rp_t4 (i := 84) rfl rfl
theorem wd_805 : Cond.static yJ2_checkIndex_2214a ∈ rp_W0 := rp_t4 (i := 85) rfl rfl
theorem wd_806 : Cond.code yJ2_checkIndex_2214a prog_13_method_91_code 2 none ∈ rp_W0 := rp_t4 (i := 86) rfl rfl
theorem wd_807 : Cond.methodLink "java/lang/StringUTF16" 48 yJ2_length_9d52b ∈ rp_W0 := rp_t4 (i := 87) rfl rfl
theorem wd_808 : Cond.static yJ2_length_9d52b ∈ rp_W0 := rp_t4 (i := 88) rfl rfl
theorem wd_809 : Cond.code yJ2_length_9d52b prog_13_method_6_code 1 (some .int) ∈ rp_W0 := rp_t4 (i := 89) rfl rfl
theorem wd_810 : Cond.methodLink "java/lang/StringUTF16" 414 yJ0_checkIndex_df160 ∈ rp_W0 := rp_t4 (i := 90) rfl rfl
theorem wd_811 : Cond.methodLink "java/lang/StringUTF16" 71 yJ2_getChar_3b067 ∈ rp_W0 := rp_t4 (i := 91) rfl rfl
theorem wd_812 : Cond.static yJ2_getChar_3b067 ∈ rp_W0 := rp_t4 (i := 92) rfl rfl
theorem wd_813 : Cond.code yJ2_getChar_3b067 prog_13_method_5_code 2 (some .char) ∈ rp_W0 := rp_t4 (i := 93) rfl rfl
theorem wd_814 : Cond.fieldLink "java/lang/StringUTF16" 44 "java/lang/StringUTF16" "$assertionsDisabled" "Z" ∈ rp_W0 := rp_t4 (i := 94) rfl rfl
theorem wd_816 : Cond.fieldLink "java/lang/StringUTF16" 59 "java/lang/StringUTF16" "HI_BYTE_SHIFT" "I" ∈ rp_W0 := rp_t4 (i := 96) rfl rfl
theorem wd_818 : Cond.fieldLink "java/lang/StringUTF16" 63 "java/lang/StringUTF16" "LO_BYTE_SHIFT" "I" ∈ rp_W0 := rp_t4 (i := 98) rfl rfl
theorem wd_820 : Cond.methodLink "RegretPegsLaw" 59 yX7_law ∈ rp_W0 := rp_t4 (i := 100) rfl rfl
theorem wd_821 : Cond.instanceMethod yX7_law ∈ rp_W0 := rp_t4 (i := 101) rfl rfl
theorem wd_822 : Cond.selects "RegretPegsModel" yX7_law yX7_law ∈ rp_W0 := rp_t4 (i := 102) rfl rfl
theorem wd_823 : Cond.code yX7_law prog_9_method_24_code 5 (some .int) ∈ rp_W0 := rp_t4 (i := 103) rfl rfl
theorem wd_824 : Cond.methodLink "RegretPegsModel" 155 yX7_given ∈ rp_W0 := rp_t4 (i := 104) rfl rfl
theorem wd_826 : Cond.instanceMethod yX7_given ∈ rp_W0 := rp_t4 (i := 106) rfl rfl
theorem wd_827 : Cond.code yX7_given prog_9_method_23_code 6 (some .int) ∈ rp_W0 := rp_t4 (i := 107) rfl rfl
theorem wd_828 : Cond.methodLink "RegretPegsModel" 146 yX7_hasText ∈ rp_W0 := rp_t4 (i := 108) rfl rfl
theorem wd_830 : Cond.instanceMethod yX7_hasText ∈ rp_W0 := rp_t4 (i := 110) rfl rfl
theorem wd_831 : Cond.code yX7_hasText prog_9_method_22_code 2 (some .boolean) ∈ rp_W0 := rp_t4 (i := 111) rfl rfl
theorem wd_832 : Cond.methodLink "RegretPegsModel" 149 yX7_worked ∈ rp_W0 := rp_t4 (i := 112) rfl rfl
theorem wd_834 : Cond.instanceMethod yX7_worked ∈ rp_W0 := rp_t4 (i := 114) rfl rfl
theorem wd_835 : Cond.code yX7_worked prog_9_method_21_code 5 (some .int) ∈ rp_W0 := rp_t4 (i := 115) rfl rfl
theorem wd_836 : Cond.methodLink "RegretPegsModel" 142 yX7_done ∈ rp_W0 := rp_t4 (i := 116) rfl rfl
theorem wd_837 : Cond.static yX7_done ∈ rp_W0 := rp_t4 (i := 117) rfl rfl
theorem wd_838 : Cond.code yX7_done prog_9_method_20_code 3 (some .int) ∈ rp_W0 := rp_t4 (i := 118) rfl rfl
theorem wd_839 : Cond.methodLink "RegretPegsModel" 152 yX7_held ∈ rp_W0 := rp_t4 (i := 119) rfl rfl
theorem wd_840 : Cond.static yX7_held ∈ rp_W0 := rp_t4 (i := 120) rfl rfl
theorem wd_841 : Cond.code yX7_held prog_9_method_4_code 3 (some .int) ∈ rp_W0 := rp_t4 (i := 121) rfl rfl
theorem wd_842 : Cond.methodLink "RegretPegsModel" 60 yJ9_min_7cf53 ∈ rp_W0 := rp_t4 (i := 122) rfl rfl
theorem wd_843 : Cond.methodLink "RegretPegsModel" 66 yJ9_max_7cf53 ∈ rp_W0 := rp_t4 (i := 123) rfl rfl
theorem wd_844 : Cond.methodLink "RegretPegsLaw" 17 yX7_guest ∈ rp_W0 := rp_t4 (i := 124) rfl rfl
theorem wd_845 : Cond.instanceMethod yX7_guest ∈ rp_W0 := rp_t4 (i := 125) rfl rfl
theorem wd_846 : Cond.selects "RegretPegsModel" yX7_guest yX7_guest ∈ rp_W0 := rp_t4 (i := 126) rfl rfl
theorem wd_847 : Cond.code yX7_guest prog_9_method_33_code 3 (some .int) ∈ rp_W0 := rp_t4 (i := 127) rfl rfl
theorem wd_848 : Cond.methodLink "RegretPegsModel" 168 yX7_isKindM ∈ rp_W0 := rp_t4 (i := 128) rfl rfl
theorem wd_849 : Cond.static yX7_isKindM ∈ rp_W0 := rp_t4 (i := 129) rfl rfl
theorem wd_850 : Cond.code yX7_isKindM prog_9_method_31_code 1 (some .boolean) ∈ rp_W0 := rp_t4 (i := 130) rfl rfl
theorem wd_851 : Cond.methodLink "RegretPegsModel" 171 yX7_isRue ∈ rp_W0 := rp_t4 (i := 131) rfl rfl
theorem wd_852 : Cond.static yX7_isRue ∈ rp_W0 := rp_t4 (i := 132) rfl rfl
theorem wd_853 : Cond.code yX7_isRue prog_9_method_27_code 1 (some .boolean) ∈ rp_W0 := rp_t4 (i := 133) rfl rfl
theorem wd_854 : Cond.methodLink "RegretPegsModel" 174 yX7_comes ∈ rp_W0 := rp_t4 (i := 134) rfl rfl
theorem wd_856 : Cond.instanceMethod yX7_comes ∈ rp_W0 := rp_t4 (i := 136) rfl rfl
theorem wd_857 : Cond.code yX7_comes prog_9_method_32_code 4 (some .int) ∈ rp_W0 := rp_t4 (i := 137) rfl rfl
theorem wd_858 : Cond.methodLink "RegretPegsModel" 162 yX7_guestAt ∈ rp_W0 := rp_t4 (i := 138) rfl rfl
theorem wd_859 : Cond.static yX7_guestAt ∈ rp_W0 := rp_t4 (i := 139) rfl rfl
theorem wd_860 : Cond.code yX7_guestAt prog_9_method_28_code 2 (some .int) ∈ rp_W0 := rp_t4 (i := 140) rfl rfl
theorem wd_861 : Cond.methodLink "RegretPegsLaw" 21 yX7_ofGuest ∈ rp_W0 := rp_t4 (i := 141) rfl rfl
theorem wd_862 : Cond.instanceMethod yX7_ofGuest ∈ rp_W0 := rp_t4 (i := 142) rfl rfl
theorem wd_863 : Cond.selects "RegretPegsModel" yX7_ofGuest yX7_ofGuest ∈ rp_W0 := rp_t4 (i := 143) rfl rfl
theorem wd_864 : Cond.code yX7_ofGuest prog_9_method_38_code 3 (some .int) ∈ rp_W0 := rp_t4 (i := 144) rfl rfl
theorem wd_865 : Cond.methodLink "RegretPegsModel" 159 yX7_isGuest ∈ rp_W0 := rp_t4 (i := 145) rfl rfl
theorem wd_867 : Cond.instanceMethod yX7_isGuest ∈ rp_W0 := rp_t4 (i := 147) rfl rfl
theorem wd_868 : Cond.code yX7_isGuest prog_9_method_25_code 2 (some .boolean) ∈ rp_W0 := rp_t4 (i := 148) rfl rfl
theorem wd_869 : Cond.methodLink "RegretPegsModel" 165 yX7_guestIs ∈ rp_W0 := rp_t4 (i := 149) rfl rfl
theorem wd_871 : Cond.instanceMethod yX7_guestIs ∈ rp_W0 := rp_t4 (i := 151) rfl rfl
theorem wd_872 : Cond.code yX7_guestIs prog_9_method_29_code 3 (some .int) ∈ rp_W0 := rp_t4 (i := 152) rfl rfl
theorem wd_873 : Cond.methodLink "RegretPegsModel" 180 yX7_pegOf ∈ rp_W0 := rp_t4 (i := 153) rfl rfl
theorem wd_875 : Cond.instanceMethod yX7_pegOf ∈ rp_W0 := rp_t4 (i := 155) rfl rfl
theorem wd_876 : Cond.code yX7_pegOf prog_9_method_36_code 3 (some .int) ∈ rp_W0 := rp_t4 (i := 156) rfl rfl
theorem wd_877 : Cond.methodLink "RegretPegsModel" 183 yX7_growsNow ∈ rp_W0 := rp_t4 (i := 157) rfl rfl
theorem wd_879 : Cond.instanceMethod yX7_growsNow ∈ rp_W0 := rp_t4 (i := 159) rfl rfl
theorem wd_880 : Cond.code yX7_growsNow prog_9_method_37_code 4 (some .int) ∈ rp_W0 := rp_t4 (i := 160) rfl rfl
theorem wd_881 : Cond.methodLink "RegretPegsLaw" 26 yX7_change ∈ rp_W0 := rp_t4 (i := 161) rfl rfl
theorem wd_882 : Cond.instanceMethod yX7_change ∈ rp_W0 := rp_t4 (i := 162) rfl rfl
theorem wd_883 : Cond.selects "RegretPegsModel" yX7_change yX7_change ∈ rp_W0 := rp_t4 (i := 163) rfl rfl
theorem wd_884 : Cond.code yX7_change prog_9_method_39_code 5 (some .int) ∈ rp_W0 := rp_t4 (i := 164) rfl rfl
theorem wd_885 : Cond.methodLink "RegretPegsModel" 186 yX7_turn ∈ rp_W0 := rp_t4 (i := 165) rfl rfl
theorem wd_887 : Cond.instanceMethod yX7_turn ∈ rp_W0 := rp_t4 (i := 167) rfl rfl
theorem wd_888 : Cond.code yX7_turn prog_9_method_6_code 4 (some .int) ∈ rp_W0 := rp_t4 (i := 168) rfl rfl
theorem wd_889 : Cond.methodLink "RegretPegsLaw" 31 yX7_peg ∈ rp_W0 := rp_t4 (i := 169) rfl rfl
theorem wd_890 : Cond.instanceMethod yX7_peg ∈ rp_W0 := rp_t4 (i := 170) rfl rfl
theorem wd_891 : Cond.selects "RegretPegsModel" yX7_peg yX7_peg ∈ rp_W0 := rp_t4 (i := 171) rfl rfl
theorem wd_892 : Cond.code yX7_peg prog_9_method_40_code 2 (some .int) ∈ rp_W0 := rp_t4 (i := 172) rfl rfl
theorem wd_893 : Cond.methodLink "RegretPegsLaw" 35 yX7_hang ∈ rp_W0 := rp_t4 (i := 173) rfl rfl
theorem wd_894 : Cond.instanceMethod yX7_hang ∈ rp_W0 := rp_t4 (i := 174) rfl rfl
theorem wd_895 : Cond.selects "RegretPegsModel" yX7_hang yX7_hang ∈ rp_W0 := rp_t4 (i := 175) rfl rfl
theorem wd_896 : Cond.code yX7_hang prog_9_method_42_code 3 (some .int) ∈ rp_W0 := rp_t4 (i := 176) rfl rfl
theorem wd_897 : Cond.methodLink "RegretPegsModel" 189 yX7_hangs ∈ rp_W0 := rp_t4 (i := 177) rfl rfl
theorem wd_899 : Cond.instanceMethod yX7_hangs ∈ rp_W0 := rp_t4 (i := 179) rfl rfl
theorem wd_900 : Cond.code yX7_hangs prog_9_method_41_code 4 (some .int) ∈ rp_W0 := rp_t4 (i := 180) rfl rfl
theorem wd_901 : Cond.methodLink "RegretPegsLaw" 39 yX7_become ∈ rp_W0 := rp_t4 (i := 181) rfl rfl
theorem wd_902 : Cond.instanceMethod yX7_become ∈ rp_W0 := rp_t4 (i := 182) rfl rfl
theorem wd_903 : Cond.selects "RegretPegsModel" yX7_become yX7_become ∈ rp_W0 := rp_t4 (i := 183) rfl rfl
theorem wd_904 : Cond.code yX7_become prog_9_method_43_code 3 (some .int) ∈ rp_W0 := rp_t4 (i := 184) rfl rfl
theorem wd_905 : Cond.methodLink "RegretPegsLaw" 43 yX7_as ∈ rp_W0 := rp_t4 (i := 185) rfl rfl
theorem wd_906 : Cond.instanceMethod yX7_as ∈ rp_W0 := rp_t4 (i := 186) rfl rfl
theorem wd_907 : Cond.selects "RegretPegsModel" yX7_as yX7_as ∈ rp_W0 := rp_t4 (i := 187) rfl rfl
theorem wd_908 : Cond.code yX7_as prog_9_method_44_code 3 (some .int) ∈ rp_W0 := rp_t4 (i := 188) rfl rfl
theorem wd_909 : Cond.methodLink "RegretPegsModel" 192 yX7_isUnder ∈ rp_W0 := rp_t4 (i := 189) rfl rfl
theorem wd_910 : Cond.static yX7_isUnder ∈ rp_W0 := rp_t4 (i := 190) rfl rfl
theorem wd_911 : Cond.code yX7_isUnder prog_9_method_35_code 3 (some .boolean) ∈ rp_W0 := rp_t4 (i := 191) rfl rfl
theorem wd_912 : Cond.methodLink "RegretPegsModel" 177 yX7_above ∈ rp_W0 := rp_t4 (i := 192) rfl rfl
theorem wd_913 : Cond.static yX7_above ∈ rp_W0 := rp_t4 (i := 193) rfl rfl
theorem wd_914 : Cond.code yX7_above prog_9_method_34_code 1 (some .int) ∈ rp_W0 := rp_t4 (i := 194) rfl rfl
theorem wd_915 : Cond.constant "RegretPegsModel" 196 (-1000000005) ∈ rp_W0 := rp_t4 (i := 195) rfl rfl
theorem wd_916 : Cond.methodLink "RegretPegsLaw" 63 yX7_dance ∈ rp_W0 := rp_t4 (i := 196) rfl rfl
theorem wd_917 : Cond.instanceMethod yX7_dance ∈ rp_W0 := rp_t4 (i := 197) rfl rfl
theorem wd_918 : Cond.selects "RegretPegsModel" yX7_dance yX7_dance ∈ rp_W0 := rp_t4 (i := 198) rfl rfl
theorem wd_919 : Cond.code yX7_dance prog_9_method_47_code 3 (some .int) ∈ rp_W0 := rp_t4 (i := 199) rfl rfl
theorem wd_920 : Cond.methodLink "RegretPegsModel" 204 yX7_areTwo ∈ rp_W0 := rp_t4 (i := 200) rfl rfl
theorem wd_922 : Cond.instanceMethod yX7_areTwo ∈ rp_W0 := rp_t4 (i := 202) rfl rfl
theorem wd_923 : Cond.code yX7_areTwo prog_9_method_26_code 3 (some .boolean) ∈ rp_W0 := rp_t4 (i := 203) rfl rfl
theorem wd_924 : Cond.constant "RegretPegsModel" 207 (-1000000003) ∈ rp_W0 := rp_t4 (i := 204) rfl rfl
theorem wd_925 : Cond.methodLink "RegretPegsModel" 208 yX7_dancing ∈ rp_W0 := rp_t4 (i := 205) rfl rfl
theorem wd_927 : Cond.instanceMethod yX7_dancing ∈ rp_W0 := rp_t4 (i := 207) rfl rfl
theorem wd_928 : Cond.code yX7_dancing prog_9_method_46_code 5 none ∈ rp_W0 := rp_t4 (i := 208) rfl rfl
theorem wd_929 : Cond.methodLink "RegretPegsModel" 197 yX7_rue ∈ rp_W0 := rp_t4 (i := 209) rfl rfl
theorem wd_931 : Cond.instanceMethod yX7_rue ∈ rp_W0 := rp_t4 (i := 211) rfl rfl
theorem wd_932 : Cond.code yX7_rue prog_9_method_30_code 2 (some .int) ∈ rp_W0 := rp_t4 (i := 212) rfl rfl
theorem wd_933 : Cond.methodLink "RegretPegsModel" 200 yX7_hasDanced ∈ rp_W0 := rp_t4 (i := 213) rfl rfl
theorem wd_935 : Cond.instanceMethod yX7_hasDanced ∈ rp_W0 := rp_t4 (i := 215) rfl rfl
theorem wd_936 : Cond.code yX7_hasDanced prog_9_method_45_code 3 none ∈ rp_W0 := rp_t4 (i := 216) rfl rfl
theorem wd_937 : Cond.methodLink "RegretPegsLaw" 67 yX7_hours ∈ rp_W0 := rp_t4 (i := 217) rfl rfl
theorem wd_938 : Cond.instanceMethod yX7_hours ∈ rp_W0 := rp_t4 (i := 218) rfl rfl
theorem wd_939 : Cond.selects "RegretPegsModel" yX7_hours yX7_hours ∈ rp_W0 := rp_t4 (i := 219) rfl rfl
theorem wd_940 : Cond.code yX7_hours prog_9_method_52_code 2 (some .int) ∈ rp_W0 := rp_t4 (i := 220) rfl rfl
theorem wd_941 : Cond.methodLink "RegretPegsModel" 217 yX7_hoursGo ∈ rp_W0 := rp_t4 (i := 221) rfl rfl
theorem wd_943 : Cond.instanceMethod yX7_hoursGo ∈ rp_W0 := rp_t4 (i := 223) rfl rfl
theorem wd_944 : Cond.code yX7_hoursGo prog_9_method_50_code 3 none ∈ rp_W0 := rp_t4 (i := 224) rfl rfl
theorem wd_945 : Cond.methodLink "RegretPegsModel" 214 yX7_hour ∈ rp_W0 := rp_t4 (i := 225) rfl rfl
theorem wd_947 : Cond.instanceMethod yX7_hour ∈ rp_W0 := rp_t4 (i := 227) rfl rfl
theorem wd_948 : Cond.code yX7_hour prog_9_method_49_code 4 none ∈ rp_W0 := rp_t4 (i := 228) rfl rfl
theorem wd_949 : Cond.methodLink "RegretPegsModel" 211 yX7_isWrongAt ∈ rp_W0 := rp_t4 (i := 229) rfl rfl
theorem wd_951 : Cond.instanceMethod yX7_isWrongAt ∈ rp_W0 := rp_t4 (i := 231) rfl rfl
theorem wd_952 : Cond.code yX7_isWrongAt prog_9_method_48_code 2 (some .boolean) ∈ rp_W0 := rp_t4 (i := 232) rfl rfl
theorem wd_953 : Cond.methodLink "RegretPegsModel" 220 yX7_sumOf ∈ rp_W0 := rp_t4 (i := 233) rfl rfl
theorem wd_955 : Cond.instanceMethod yX7_sumOf ∈ rp_W0 := rp_t4 (i := 235) rfl rfl
theorem wd_956 : Cond.code yX7_sumOf prog_9_method_51_code 4 (some .int) ∈ rp_W0 := rp_t4 (i := 236) rfl rfl
theorem wd_957 : Cond.methodLink "RegretPegsLaw" 71 yX7_loose ∈ rp_W0 := rp_t4 (i := 237) rfl rfl
theorem wd_958 : Cond.instanceMethod yX7_loose ∈ rp_W0 := rp_t4 (i := 238) rfl rfl
theorem wd_959 : Cond.selects "RegretPegsModel" yX7_loose yX7_loose ∈ rp_W0 := rp_t4 (i := 239) rfl rfl
theorem wd_960 : Cond.code yX7_loose prog_9_method_55_code 3 (some .int) ∈ rp_W0 := rp_t5 (i := 0) rfl rfl
theorem wd_961 : Cond.methodLink "RegretPegsModel" 227 yX7_dancesByDraws ∈ rp_W0 := rp_t5 (i := 1) rfl rfl
theorem wd_963 : Cond.instanceMethod yX7_dancesByDraws ∈ rp_W0 := rp_t5 (i := 3) rfl rfl
theorem wd_964 : Cond.code yX7_dancesByDraws prog_9_method_54_code 3 none ∈ rp_W0 := rp_t5 (i := 4) rfl rfl
theorem wd_965 : Cond.methodLink "RegretPegsModel" 224 yX7_drawn ∈ rp_W0 := rp_t5 (i := 5) rfl rfl
theorem wd_967 : Cond.instanceMethod yX7_drawn ∈ rp_W0 := rp_t5 (i := 7) rfl rfl
theorem wd_968 : Cond.code yX7_drawn prog_9_method_53_code 1 (some .int) ∈ rp_W0 := rp_t5 (i := 8) rfl rfl
theorem wd_969 : Cond.constant "RegretPegsModel" 223 1103515245 ∈ rp_W0 := rp_t5 (i := 9) rfl rfl
theorem wd_970 : Cond.methodLink "RegretPegsLaw" 75 yX7_then ∈ rp_W0 := rp_t5 (i := 10) rfl rfl
theorem wd_971 : Cond.instanceMethod yX7_then ∈ rp_W0 := rp_t5 (i := 11) rfl rfl
theorem wd_972 : Cond.selects "RegretPegsModel" yX7_then yX7_then ∈ rp_W0 := rp_t5 (i := 12) rfl rfl
theorem wd_973 : Cond.code yX7_then prog_9_method_58_code 4 (some .int) ∈ rp_W0 := rp_t5 (i := 13) rfl rfl
theorem wd_974 : Cond.methodLink "RegretPegsModel" 230 yX7_isBehind ∈ rp_W0 := rp_t5 (i := 14) rfl rfl
theorem wd_975 : Cond.static yX7_isBehind ∈ rp_W0 := rp_t5 (i := 15) rfl rfl
theorem wd_976 : Cond.code yX7_isBehind prog_9_method_56_code 1 (some .boolean) ∈ rp_W0 := rp_t5 (i := 16) rfl rfl
theorem wd_977 : Cond.methodLink "RegretPegsModel" 69 yX7_copy ∈ rp_W0 := rp_t5 (i := 17) rfl rfl
theorem wd_978 : Cond.static yX7_copy ∈ rp_W0 := rp_t5 (i := 18) rfl rfl
theorem wd_979 : Cond.code yX7_copy prog_9_method_5_code 3 none ∈ rp_W0 := rp_t5 (i := 19) rfl rfl
theorem wd_980 : Cond.methodLink "RegretPegsModel" 233 yX7_putBack ∈ rp_W0 := rp_t5 (i := 20) rfl rfl
theorem wd_982 : Cond.instanceMethod yX7_putBack ∈ rp_W0 := rp_t5 (i := 22) rfl rfl
theorem wd_983 : Cond.code yX7_putBack prog_9_method_7_code 2 (some .int) ∈ rp_W0 := rp_t5 (i := 23) rfl rfl
theorem wd_984 : Cond.methodLink "RegretPegsLaw" 79 yX7_last ∈ rp_W0 := rp_t5 (i := 24) rfl rfl
theorem wd_985 : Cond.instanceMethod yX7_last ∈ rp_W0 := rp_t5 (i := 25) rfl rfl
theorem wd_986 : Cond.selects "RegretPegsModel" yX7_last yX7_last ∈ rp_W0 := rp_t5 (i := 26) rfl rfl
theorem wd_987 : Cond.code yX7_last prog_9_method_59_code 5 (some .int) ∈ rp_W0 := rp_t5 (i := 27) rfl rfl
theorem wd_988 : Cond.constant "RegretPegsModel" 236 (-1000000002) ∈ rp_W0 := rp_t5 (i := 28) rfl rfl
theorem wd_989 : Cond.methodLink "RegretPegsLaw" 83 yX7_partner ∈ rp_W0 := rp_t5 (i := 29) rfl rfl
theorem wd_990 : Cond.instanceMethod yX7_partner ∈ rp_W0 := rp_t5 (i := 30) rfl rfl
theorem wd_991 : Cond.selects "RegretPegsModel" yX7_partner yX7_partner ∈ rp_W0 := rp_t5 (i := 31) rfl rfl
theorem wd_992 : Cond.code yX7_partner prog_9_method_61_code 8 (some .int) ∈ rp_W0 := rp_t5 (i := 32) rfl rfl
theorem wd_993 : Cond.methodLink "RegretPegsModel" 237 yX7_isSoon ∈ rp_W0 := rp_t5 (i := 33) rfl rfl
theorem wd_994 : Cond.static yX7_isSoon ∈ rp_W0 := rp_t5 (i := 34) rfl rfl
theorem wd_995 : Cond.code yX7_isSoon prog_9_method_57_code 1 (some .boolean) ∈ rp_W0 := rp_t5 (i := 35) rfl rfl
theorem wd_996 : Cond.methodLink "RegretPegsModel" 240 yX7_pegWith ∈ rp_W0 := rp_t5 (i := 36) rfl rfl
theorem wd_998 : Cond.instanceMethod yX7_pegWith ∈ rp_W0 := rp_t5 (i := 38) rfl rfl
theorem wd_999 : Cond.code yX7_pegWith prog_9_method_60_code 4 (some .int) ∈ rp_W0 := rp_t5 (i := 39) rfl rfl
theorem wd_1000 : Cond.methodLink "RegretPegsLaw" 87 yX7_dances ∈ rp_W0 := rp_t5 (i := 40) rfl rfl
theorem wd_1001 : Cond.instanceMethod yX7_dances ∈ rp_W0 := rp_t5 (i := 41) rfl rfl
theorem wd_1002 : Cond.selects "RegretPegsModel" yX7_dances yX7_dances ∈ rp_W0 := rp_t5 (i := 42) rfl rfl
theorem wd_1003 : Cond.code yX7_dances prog_9_method_64_code 9 (some .int) ∈ rp_W0 := rp_t5 (i := 43) rfl rfl
theorem wd_1004 : Cond.methodLink "RegretPegsModel" 243 yX7_hangsBy ∈ rp_W0 := rp_t5 (i := 44) rfl rfl
theorem wd_1006 : Cond.instanceMethod yX7_hangsBy ∈ rp_W0 := rp_t5 (i := 46) rfl rfl
theorem wd_1007 : Cond.code yX7_hangsBy prog_9_method_62_code 7 (some .boolean) ∈ rp_W0 := rp_t5 (i := 47) rfl rfl
theorem wd_1008 : Cond.methodLink "RegretPegsModel" 247 yX7_isPair ∈ rp_W0 := rp_t5 (i := 48) rfl rfl
theorem wd_1010 : Cond.instanceMethod yX7_isPair ∈ rp_W0 := rp_t5 (i := 50) rfl rfl
theorem wd_1011 : Cond.code yX7_isPair prog_9_method_63_code 2 (some .boolean) ∈ rp_W0 := rp_t5 (i := 51) rfl rfl
theorem wd_1012 : Cond.methodLink "RegretPegsLaw" 91 yX7_whoDanced ∈ rp_W0 := rp_t5 (i := 52) rfl rfl
theorem wd_1013 : Cond.instanceMethod yX7_whoDanced ∈ rp_W0 := rp_t5 (i := 53) rfl rfl
theorem wd_1014 : Cond.selects "RegretPegsModel" yX7_whoDanced yX7_whoDanced ∈ rp_W0 := rp_t5 (i := 54) rfl rfl
theorem wd_1015 : Cond.code yX7_whoDanced prog_9_method_66_code 8 (some .int) ∈ rp_W0 := rp_t5 (i := 55) rfl rfl
theorem wd_1016 : Cond.methodLink "RegretPegsModel" 250 yX7_isSheet ∈ rp_W0 := rp_t5 (i := 56) rfl rfl
theorem wd_1017 : Cond.static yX7_isSheet ∈ rp_W0 := rp_t5 (i := 57) rfl rfl
theorem wd_1018 : Cond.code yX7_isSheet prog_9_method_84_code 1 (some .boolean) ∈ rp_W0 := rp_t5 (i := 58) rfl rfl
theorem wd_1019 : Cond.methodLink "RegretPegsModel" 253 yX7_isSoDanced ∈ rp_W0 := rp_t5 (i := 59) rfl rfl
theorem wd_1021 : Cond.instanceMethod yX7_isSoDanced ∈ rp_W0 := rp_t5 (i := 61) rfl rfl
theorem wd_1022 : Cond.code yX7_isSoDanced prog_9_method_65_code 8 (some .boolean) ∈ rp_W0 := rp_t5 (i := 62) rfl rfl
theorem wd_1023 : Cond.methodLink "RegretPegsLaw" 96 yX7_inOrder ∈ rp_W0 := rp_t5 (i := 63) rfl rfl
theorem wd_1024 : Cond.instanceMethod yX7_inOrder ∈ rp_W0 := rp_t5 (i := 64) rfl rfl
theorem wd_1025 : Cond.selects "RegretPegsModel" yX7_inOrder yX7_inOrder ∈ rp_W0 := rp_t5 (i := 65) rfl rfl
theorem wd_1026 : Cond.code yX7_inOrder prog_9_method_68_code 3 (some .int) ∈ rp_W0 := rp_t5 (i := 66) rfl rfl
theorem wd_1027 : Cond.methodLink "RegretPegsModel" 256 yX7_isRight ∈ rp_W0 := rp_t5 (i := 67) rfl rfl
theorem wd_1029 : Cond.instanceMethod yX7_isRight ∈ rp_W0 := rp_t5 (i := 69) rfl rfl
theorem wd_1030 : Cond.code yX7_isRight prog_9_method_67_code 3 (some .boolean) ∈ rp_W0 := rp_t5 (i := 70) rfl rfl
theorem wd_1031 : Cond.methodLink "RegretPegsLaw" 100 yX7_wrongs ∈ rp_W0 := rp_t5 (i := 71) rfl rfl
theorem wd_1032 : Cond.instanceMethod yX7_wrongs ∈ rp_W0 := rp_t5 (i := 72) rfl rfl
theorem wd_1033 : Cond.selects "RegretPegsModel" yX7_wrongs yX7_wrongs ∈ rp_W0 := rp_t5 (i := 73) rfl rfl
theorem wd_1034 : Cond.code yX7_wrongs prog_9_method_69_code 4 (some .int) ∈ rp_W0 := rp_t5 (i := 74) rfl rfl
theorem wd_1035 : Cond.methodLink "RegretPegsLaw" 104 yX7_swap ∈ rp_W0 := rp_t5 (i := 75) rfl rfl
theorem wd_1036 : Cond.instanceMethod yX7_swap ∈ rp_W0 := rp_t5 (i := 76) rfl rfl
theorem wd_1037 : Cond.selects "RegretPegsModel" yX7_swap yX7_swap ∈ rp_W0 := rp_t5 (i := 77) rfl rfl
theorem wd_1038 : Cond.code yX7_swap prog_9_method_70_code 9 (some .int) ∈ rp_W0 := rp_t5 (i := 78) rfl rfl
theorem wd_1039 : Cond.methodLink "RegretPegsModel" 260 yX7_wrongs ∈ rp_W0 := rp_t5 (i := 79) rfl rfl
theorem wd_1040 : Cond.methodLink "RegretPegsLaw" 108 yX7_go ∈ rp_W0 := rp_t5 (i := 80) rfl rfl
theorem wd_1041 : Cond.instanceMethod yX7_go ∈ rp_W0 := rp_t5 (i := 81) rfl rfl
theorem wd_1042 : Cond.selects "RegretPegsModel" yX7_go yX7_go ∈ rp_W0 := rp_t5 (i := 82) rfl rfl
theorem wd_1043 : Cond.code yX7_go prog_9_method_71_code 7 (some .int) ∈ rp_W0 := rp_t5 (i := 83) rfl rfl
theorem wd_1044 : Cond.methodLink "RegretPegsLaw" 112 yX7_allRue ∈ rp_W0 := rp_t5 (i := 84) rfl rfl
theorem wd_1045 : Cond.instanceMethod yX7_allRue ∈ rp_W0 := rp_t5 (i := 85) rfl rfl
theorem wd_1046 : Cond.selects "RegretPegsModel" yX7_allRue yX7_allRue ∈ rp_W0 := rp_t5 (i := 86) rfl rfl
theorem wd_1047 : Cond.code yX7_allRue prog_9_method_72_code 2 (some .int) ∈ rp_W0 := rp_t5 (i := 87) rfl rfl
theorem wd_1048 : Cond.methodLink "RegretPegsLaw" 116 yX7_sorriest ∈ rp_W0 := rp_t5 (i := 88) rfl rfl
theorem wd_1049 : Cond.instanceMethod yX7_sorriest ∈ rp_W0 := rp_t5 (i := 89) rfl rfl
theorem wd_1050 : Cond.selects "RegretPegsModel" yX7_sorriest yX7_sorriest ∈ rp_W0 := rp_t5 (i := 90) rfl rfl
theorem wd_1051 : Cond.code yX7_sorriest prog_9_method_73_code 5 (some .int) ∈ rp_W0 := rp_t5 (i := 91) rfl rfl
theorem wd_1052 : Cond.methodLink "RegretPegsLaw" 120 yX7_odds ∈ rp_W0 := rp_t5 (i := 92) rfl rfl
theorem wd_1053 : Cond.instanceMethod yX7_odds ∈ rp_W0 := rp_t5 (i := 93) rfl rfl
theorem wd_1054 : Cond.selects "RegretPegsModel" yX7_odds yX7_odds ∈ rp_W0 := rp_t5 (i := 94) rfl rfl
theorem wd_1055 : Cond.code yX7_odds prog_9_method_74_code 10 (some .int) ∈ rp_W0 := rp_t5 (i := 95) rfl rfl
theorem wd_1056 : Cond.methodLink "RegretPegsLaw" 124 yX7_seed ∈ rp_W0 := rp_t5 (i := 96) rfl rfl
theorem wd_1057 : Cond.instanceMethod yX7_seed ∈ rp_W0 := rp_t5 (i := 97) rfl rfl
theorem wd_1058 : Cond.selects "RegretPegsModel" yX7_seed yX7_seed ∈ rp_W0 := rp_t5 (i := 98) rfl rfl
theorem wd_1059 : Cond.code yX7_seed prog_9_method_75_code 2 (some .int) ∈ rp_W0 := rp_t5 (i := 99) rfl rfl
theorem wd_1060 : Cond.methodLink "RegretPegsLaw" 128 yX7_voice ∈ rp_W0 := rp_t5 (i := 100) rfl rfl
theorem wd_1061 : Cond.instanceMethod yX7_voice ∈ rp_W0 := rp_t5 (i := 101) rfl rfl
theorem wd_1062 : Cond.selects "RegretPegsModel" yX7_voice yX7_voice ∈ rp_W0 := rp_t5 (i := 102) rfl rfl
theorem wd_1063 : Cond.code yX7_voice prog_9_method_82_code 4 (some .int) ∈ rp_W0 := rp_t5 (i := 103) rfl rfl
theorem wd_1064 : Cond.methodLink "RegretPegsModel" 275 yX7_dancesOf ∈ rp_W0 := rp_t5 (i := 104) rfl rfl
theorem wd_1066 : Cond.instanceMethod yX7_dancesOf ∈ rp_W0 := rp_t5 (i := 106) rfl rfl
theorem wd_1067 : Cond.code yX7_dancesOf prog_9_method_77_code 3 (some .int) ∈ rp_W0 := rp_t5 (i := 107) rfl rfl
theorem wd_1068 : Cond.methodLink "RegretPegsModel" 269 yX7_ran ∈ rp_W0 := rp_t5 (i := 108) rfl rfl
theorem wd_1070 : Cond.instanceMethod yX7_ran ∈ rp_W0 := rp_t5 (i := 110) rfl rfl
theorem wd_1071 : Cond.code yX7_ran prog_9_method_76_code 2 none ∈ rp_W0 := rp_t5 (i := 111) rfl rfl
theorem wd_1072 : Cond.methodLink "RegretPegsModel" 284 yX7_sighsOf ∈ rp_W0 := rp_t5 (i := 112) rfl rfl
theorem wd_1074 : Cond.instanceMethod yX7_sighsOf ∈ rp_W0 := rp_t5 (i := 114) rfl rfl
theorem wd_1075 : Cond.code yX7_sighsOf prog_9_method_78_code 5 (some .int) ∈ rp_W0 := rp_t5 (i := 115) rfl rfl
theorem wd_1076 : Cond.methodLink "RegretPegsModel" 278 yX7_looksOf ∈ rp_W0 := rp_t5 (i := 116) rfl rfl
theorem wd_1078 : Cond.instanceMethod yX7_looksOf ∈ rp_W0 := rp_t5 (i := 118) rfl rfl
theorem wd_1079 : Cond.code yX7_looksOf prog_9_method_79_code 4 (some .int) ∈ rp_W0 := rp_t5 (i := 119) rfl rfl
theorem wd_1080 : Cond.methodLink "RegretPegsModel" 290 yX7_tellsOf ∈ rp_W0 := rp_t5 (i := 120) rfl rfl
theorem wd_1082 : Cond.instanceMethod yX7_tellsOf ∈ rp_W0 := rp_t5 (i := 122) rfl rfl
theorem wd_1083 : Cond.code yX7_tellsOf prog_9_method_81_code 3 (some .int) ∈ rp_W0 := rp_t5 (i := 123) rfl rfl
theorem wd_1084 : Cond.methodLink "RegretPegsModel" 287 yX7_plainTells ∈ rp_W0 := rp_t5 (i := 124) rfl rfl
theorem wd_1086 : Cond.instanceMethod yX7_plainTells ∈ rp_W0 := rp_t5 (i := 126) rfl rfl
theorem wd_1087 : Cond.code yX7_plainTells prog_9_method_80_code 3 (some .int) ∈ rp_W0 := rp_t5 (i := 127) rfl rfl
theorem wd_1088 : Cond.methodLink "RegretPegsLaw" 132 yX7_trace ∈ rp_W0 := rp_t5 (i := 128) rfl rfl
theorem wd_1089 : Cond.instanceMethod yX7_trace ∈ rp_W0 := rp_t5 (i := 129) rfl rfl
theorem wd_1090 : Cond.selects "RegretPegsModel" yX7_trace yX7_trace ∈ rp_W0 := rp_t5 (i := 130) rfl rfl
theorem wd_1091 : Cond.code yX7_trace prog_9_method_83_code 2 (some .int) ∈ rp_W0 := rp_t5 (i := 131) rfl rfl
theorem wd_1092 : Cond.methodLink "RegretPegsLaw" 136 yX7_sheet ∈ rp_W0 := rp_t5 (i := 132) rfl rfl
theorem wd_1093 : Cond.instanceMethod yX7_sheet ∈ rp_W0 := rp_t5 (i := 133) rfl rfl
theorem wd_1094 : Cond.selects "RegretPegsModel" yX7_sheet yX7_sheet ∈ rp_W0 := rp_t5 (i := 134) rfl rfl
theorem wd_1095 : Cond.code yX7_sheet prog_9_method_85_code 5 (some .int) ∈ rp_W0 := rp_t5 (i := 135) rfl rfl
theorem wd_1096 : Cond.methodLink "RegretPegsLaw" 140 yX7_put ∈ rp_W0 := rp_t5 (i := 136) rfl rfl
theorem wd_1097 : Cond.instanceMethod yX7_put ∈ rp_W0 := rp_t5 (i := 137) rfl rfl
theorem wd_1098 : Cond.selects "RegretPegsModel" yX7_put yX7_put ∈ rp_W0 := rp_t5 (i := 138) rfl rfl
theorem wd_1099 : Cond.code yX7_put prog_9_method_86_code 4 (some .int) ∈ rp_W0 := rp_t5 (i := 139) rfl rfl
theorem wd_1100 : Cond.methodLink "RegretPegsLaw" 145 yX7_move ∈ rp_W0 := rp_t5 (i := 140) rfl rfl
theorem wd_1101 : Cond.instanceMethod yX7_move ∈ rp_W0 := rp_t5 (i := 141) rfl rfl
theorem wd_1102 : Cond.selects "RegretPegsModel" yX7_move yX7_move ∈ rp_W0 := rp_t5 (i := 142) rfl rfl
theorem wd_1103 : Cond.code yX7_move prog_9_method_87_code 7 (some .int) ∈ rp_W0 := rp_t5 (i := 143) rfl rfl
theorem wd_1104 : Cond.methodLink "RegretPegsLaw" 149 yX7_rues ∈ rp_W0 := rp_t5 (i := 144) rfl rfl
theorem wd_1105 : Cond.instanceMethod yX7_rues ∈ rp_W0 := rp_t5 (i := 145) rfl rfl
theorem wd_1106 : Cond.selects "RegretPegsModel" yX7_rues yX7_rues ∈ rp_W0 := rp_t5 (i := 146) rfl rfl
theorem wd_1107 : Cond.code yX7_rues prog_9_method_88_code 3 (some .int) ∈ rp_W0 := rp_t5 (i := 147) rfl rfl
theorem wd_1108 : Cond.methodLink "RegretPegsLaw" 153 yX7_judge ∈ rp_W0 := rp_t5 (i := 148) rfl rfl
theorem wd_1109 : Cond.instanceMethod yX7_judge ∈ rp_W0 := rp_t5 (i := 149) rfl rfl
theorem wd_1110 : Cond.selects "RegretPegsModel" yX7_judge yX7_judge ∈ rp_W0 := rp_t5 (i := 150) rfl rfl
theorem wd_1111 : Cond.code yX7_judge prog_9_method_89_code 3 (some .int) ∈ rp_W0 := rp_t5 (i := 151) rfl rfl
theorem wd_1112 : Cond.methodLink "RegretPegsLaw" 157 yX7_image ∈ rp_W0 := rp_t5 (i := 152) rfl rfl
theorem wd_1113 : Cond.instanceMethod yX7_image ∈ rp_W0 := rp_t5 (i := 153) rfl rfl
theorem wd_1114 : Cond.selects "RegretPegsModel" yX7_image yX7_image ∈ rp_W0 := rp_t5 (i := 154) rfl rfl
theorem wd_1115 : Cond.code yX7_image prog_9_method_90_code 1 (some .int) ∈ rp_W0 := rp_t5 (i := 155) rfl rfl
theorem wd_1116 : Cond.methodLink "RegretPegsLaw" 161 yX7_restore ∈ rp_W0 := rp_t5 (i := 156) rfl rfl
theorem wd_1117 : Cond.instanceMethod yX7_restore ∈ rp_W0 := rp_t5 (i := 157) rfl rfl
theorem wd_1118 : Cond.selects "RegretPegsModel" yX7_restore yX7_restore ∈ rp_W0 := rp_t5 (i := 158) rfl rfl
theorem wd_1119 : Cond.code yX7_restore prog_9_method_91_code 1 (some .int) ∈ rp_W0 := rp_t5 (i := 159) rfl rfl
theorem wd_1120 : Cond.methodLink "RegretPegsLaw" 165 yX7_tell ∈ rp_W0 := rp_t5 (i := 160) rfl rfl
theorem wd_1121 : Cond.instanceMethod yX7_tell ∈ rp_W0 := rp_t5 (i := 161) rfl rfl
theorem wd_1122 : Cond.selects "RegretPegsModel" yX7_tell yX7_tell ∈ rp_W0 := rp_t5 (i := 162) rfl rfl
theorem wd_1123 : Cond.code yX7_tell prog_9_method_92_code 2 (some .int) ∈ rp_W0 := rp_t5 (i := 163) rfl rfl
theorem wd_1124 : Cond.methodLink "RegretPegsLaw" 169 yX7_check ∈ rp_W0 := rp_t5 (i := 164) rfl rfl
theorem wd_1125 : Cond.instanceMethod yX7_check ∈ rp_W0 := rp_t5 (i := 165) rfl rfl
theorem wd_1126 : Cond.selects "RegretPegsModel" yX7_check yX7_check ∈ rp_W0 := rp_t5 (i := 166) rfl rfl
theorem wd_1127 : Cond.code yX7_check prog_9_method_93_code 4 (some .int) ∈ rp_W0 := rp_t5 (i := 167) rfl rfl
theorem wd_1128 : Cond.methodLink "RegretPegsLaw" 173 yX7_count ∈ rp_W0 := rp_t5 (i := 168) rfl rfl
theorem wd_1129 : Cond.instanceMethod yX7_count ∈ rp_W0 := rp_t5 (i := 169) rfl rfl
theorem wd_1130 : Cond.selects "RegretPegsModel" yX7_count yX7_count ∈ rp_W0 := rp_t5 (i := 170) rfl rfl
theorem wd_1131 : Cond.code yX7_count prog_9_method_95_code 2 (some .int) ∈ rp_W0 := rp_t5 (i := 171) rfl rfl
theorem wd_1132 : Cond.methodLink "RegretPegsModel" 296 yX7_idleOnes ∈ rp_W0 := rp_t5 (i := 172) rfl rfl
theorem wd_1134 : Cond.instanceMethod yX7_idleOnes ∈ rp_W0 := rp_t5 (i := 174) rfl rfl
theorem wd_1135 : Cond.code yX7_idleOnes prog_9_method_94_code 3 (some .int) ∈ rp_W0 := rp_t5 (i := 175) rfl rfl
theorem wd_1136 : Cond.methodLink "RegretPegsLaw" 177 yX7_told ∈ rp_W0 := rp_t5 (i := 176) rfl rfl
theorem wd_1137 : Cond.instanceMethod yX7_told ∈ rp_W0 := rp_t5 (i := 177) rfl rfl
theorem wd_1138 : Cond.selects "RegretPegsModel" yX7_told yX7_told ∈ rp_W0 := rp_t5 (i := 178) rfl rfl
theorem wd_1139 : Cond.code yX7_told prog_9_method_96_code 2 (some .int) ∈ rp_W0 := rp_t5 (i := 179) rfl rfl
theorem wd_1140 : Cond.constantLong "RegretPegsLaw" 44 4294967295 ∈ rp_W0 := rp_t5 (i := 180) rfl rfl
theorem wd_1141 : Cond.fieldLink "java/lang/String" 9 "java/lang/String" "value" "[B" ∈ rp_W0 := rp_t5 (i := 181) rfl rfl
theorem wd_1142 : Cond.fieldLink "java/lang/String" 15 "java/lang/String" "coder" "B" ∈ rp_W0 := rp_t5 (i := 182) rfl rfl
theorem lw_pin1 {q : MethodName × Nat} (h : q ∈ lw_privs_1) : q ∈ lw_privs := List.mem_append_left _ h
theorem lw_pin2 {q : MethodName × Nat} (h : q ∈ lw_privs_2) : q ∈ lw_privs := List.mem_append_right _ (List.mem_append_left _ h)
theorem lw_pin3 {q : MethodName × Nat} (h : q ∈ lw_privs_3) : q ∈ lw_privs := List.mem_append_right _ (List.mem_append_right _ (List.mem_append_left _ h))
theorem lw_pin4 {q : MethodName × Nat} (h : q ∈ lw_privs_4) : q ∈ lw_privs := List.mem_append_right _ (List.mem_append_right _ (List.mem_append_right _ (List.mem_append_left _ h)))
theorem lw_pin5 {q : MethodName × Nat} (h : q ∈ lw_privs_5) : q ∈ lw_privs := List.mem_append_right _ (List.mem_append_right _ (List.mem_append_right _ (List.mem_append_right _ (h))))
theorem ws_yX6_refuse : Cond.selects RX6 yX6_refuse yX6_refuse ∈ rp_W0 := rp_ts (yX6_refuse, 9) (lw_pin1 (List.mem_of_getElem? (i := 0) rfl)) rfl rfl
theorem ws_yX6_isGuest : Cond.selects RX6 yX6_isGuest yX6_isGuest ∈ rp_W0 := rp_ts (yX6_isGuest, 9) (lw_pin1 (List.mem_of_getElem? (i := 1) rfl)) rfl rfl
theorem ws_yX6_replace : Cond.selects RX6 yX6_replace yX6_replace ∈ rp_W0 := rp_ts (yX6_replace, 9) (lw_pin1 (List.mem_of_getElem? (i := 2) rfl)) rfl rfl
theorem ws_yX6_isPeg : Cond.selects RX6 yX6_isPeg yX6_isPeg ∈ rp_W0 := rp_ts (yX6_isPeg, 9) (lw_pin1 (List.mem_of_getElem? (i := 3) rfl)) rfl rfl
theorem ws_yX3_readLevel : Cond.selects RX3 yX3_readLevel yX3_readLevel ∈ rp_W0 := rp_ts (yX3_readLevel, 6) (lw_pin1 (List.mem_of_getElem? (i := 4) rfl)) rfl rfl
theorem ws_yX3_readQ : Cond.selects RX3 yX3_readQ yX3_readQ ∈ rp_W0 := rp_ts (yX3_readQ, 6) (lw_pin1 (List.mem_of_getElem? (i := 5) rfl)) rfl rfl
theorem ws_yX3_ahead : Cond.selects RX3 yX3_ahead yX3_ahead ∈ rp_W0 := rp_ts (yX3_ahead, 6) (lw_pin1 (List.mem_of_getElem? (i := 6) rfl)) rfl rfl
theorem ws_yX3_readNumber : Cond.selects RX3 yX3_readNumber yX3_readNumber ∈ rp_W0 := rp_ts (yX3_readNumber, 6) (lw_pin1 (List.mem_of_getElem? (i := 7) rfl)) rfl rfl
theorem ws_yX3_emit : Cond.selects RX3 yX3_emit yX3_emit ∈ rp_W0 := rp_ts (yX3_emit, 6) (lw_pin1 (List.mem_of_getElem? (i := 8) rfl)) rfl rfl
theorem ws_yX3_nameOf : Cond.selects RX3 yX3_nameOf yX3_nameOf ∈ rp_W0 := rp_ts (yX3_nameOf, 6) (lw_pin1 (List.mem_of_getElem? (i := 9) rfl)) rfl rfl
theorem ws_yX3_readNot : Cond.selects RX3 yX3_readNot yX3_readNot ∈ rp_W0 := rp_ts (yX3_readNot, 6) (lw_pin1 (List.mem_of_getElem? (i := 10) rfl)) rfl rfl
theorem ws_yX3_readClosed : Cond.selects RX3 yX3_readClosed yX3_readClosed ∈ rp_W0 := rp_ts (yX3_readClosed, 6) (lw_pin1 (List.mem_of_getElem? (i := 11) rfl)) rfl rfl
theorem ws_yX6_useLaw : Cond.selects RX6 yX6_useLaw yX6_useLaw ∈ rp_W0 := rp_ts (yX6_useLaw, 9) (lw_pin1 (List.mem_of_getElem? (i := 12) rfl)) rfl rfl
theorem ws_yX2_work : Cond.selects RX2 yX2_work yX2_work ∈ rp_W0 := rp_ts (yX2_work, 4) (lw_pin1 (List.mem_of_getElem? (i := 13) rfl)) rfl rfl
theorem ws_yX0_noteDanced : Cond.selects RX0 yX0_noteDanced yX0_noteDanced ∈ rp_W0 := rp_ts (yX0_noteDanced, 7) (lw_pin1 (List.mem_of_getElem? (i := 14) rfl)) rfl rfl
theorem ws_yX0_growRue : Cond.selects RX0 yX0_growRue yX0_growRue ∈ rp_W0 := rp_ts (yX0_growRue, 7) (lw_pin1 (List.mem_of_getElem? (i := 15) rfl)) rfl rfl
theorem ws_yX0_shiftNeighbours : Cond.selects RX0 yX0_shiftNeighbours yX0_shiftNeighbours ∈ rp_W0 := rp_ts (yX0_shiftNeighbours, 7) (lw_pin2 (List.mem_of_getElem? (i := 0) rfl)) rfl rfl
theorem ws_yX1_draw : Cond.selects RX1 yX1_draw yX1_draw ∈ rp_W0 := rp_ts (yX1_draw, 9) (lw_pin2 (List.mem_of_getElem? (i := 1) rfl)) rfl rfl
theorem ws_yX6_pegHavingDanced : Cond.selects RX6 yX6_pegHavingDanced yX6_pegHavingDanced ∈ rp_W0 := rp_ts (yX6_pegHavingDanced, 9) (lw_pin2 (List.mem_of_getElem? (i := 2) rfl)) rfl rfl
theorem ws_yX6_danceThatHelps : Cond.selects RX6 yX6_danceThatHelps yX6_danceThatHelps ∈ rp_W0 := rp_ts (yX6_danceThatHelps, 9) (lw_pin2 (List.mem_of_getElem? (i := 3) rfl)) rfl rfl
theorem ws_yX6_firstOfTwoThatHelp : Cond.selects RX6 yX6_firstOfTwoThatHelp yX6_firstOfTwoThatHelp ∈ rp_W0 := rp_ts (yX6_firstOfTwoThatHelp, 9) (lw_pin2 (List.mem_of_getElem? (i := 4) rfl)) rfl rfl
theorem ws_yX5_speak : Cond.selects RX5 yX5_speak yX5_speak ∈ rp_W0 := rp_ts (yX5_speak, 5) (lw_pin2 (List.mem_of_getElem? (i := 5) rfl)) rfl rfl
theorem ws_yX5_note : Cond.selects RX5 yX5_note yX5_note ∈ rp_W0 := rp_ts (yX5_note, 5) (lw_pin2 (List.mem_of_getElem? (i := 6) rfl)) rfl rfl
theorem ws_yX5_answer : Cond.selects RX5 yX5_answer yX5_answer ∈ rp_W0 := rp_ts (yX5_answer, 5) (lw_pin2 (List.mem_of_getElem? (i := 7) rfl)) rfl rfl
theorem ws_yX7_finding : Cond.selects RX7 yX7_finding yX7_finding ∈ rp_W0 := rp_ts (yX7_finding, 24) (lw_pin2 (List.mem_of_getElem? (i := 8) rfl)) rfl rfl
theorem ws_yX7_either : Cond.selects RX7 yX7_either yX7_either ∈ rp_W0 := rp_ts (yX7_either, 24) (lw_pin2 (List.mem_of_getElem? (i := 9) rfl)) rfl rfl
theorem ws_yX7_both : Cond.selects RX7 yX7_both yX7_both ∈ rp_W0 := rp_ts (yX7_both, 24) (lw_pin2 (List.mem_of_getElem? (i := 10) rfl)) rfl rfl
theorem ws_yX7_compared : Cond.selects RX7 yX7_compared yX7_compared ∈ rp_W0 := rp_ts (yX7_compared, 24) (lw_pin2 (List.mem_of_getElem? (i := 11) rfl)) rfl rfl
theorem ws_yX7_sum : Cond.selects RX7 yX7_sum yX7_sum ∈ rp_W0 := rp_ts (yX7_sum, 24) (lw_pin2 (List.mem_of_getElem? (i := 12) rfl)) rfl rfl
theorem ws_yX7_product : Cond.selects RX7 yX7_product yX7_product ∈ rp_W0 := rp_ts (yX7_product, 24) (lw_pin2 (List.mem_of_getElem? (i := 13) rfl)) rfl rfl
theorem ws_yX7_one : Cond.selects RX7 yX7_one yX7_one ∈ rp_W0 := rp_ts (yX7_one, 24) (lw_pin2 (List.mem_of_getElem? (i := 14) rfl)) rfl rfl
theorem ws_yX7_here : Cond.selects RX7 yX7_here yX7_here ∈ rp_W0 := rp_ts (yX7_here, 24) (lw_pin2 (List.mem_of_getElem? (i := 15) rfl)) rfl rfl
theorem ws_yX7_codes : Cond.selects RX7 yX7_codes yX7_codes ∈ rp_W0 := rp_ts (yX7_codes, 24) (lw_pin3 (List.mem_of_getElem? (i := 0) rfl)) rfl rfl
theorem ws_yX7_takes : Cond.selects RX7 yX7_takes yX7_takes ∈ rp_W0 := rp_ts (yX7_takes, 24) (lw_pin3 (List.mem_of_getElem? (i := 1) rfl)) rfl rfl
theorem ws_yX7_nameOf : Cond.selects RX7 yX7_nameOf yX7_nameOf ∈ rp_W0 := rp_ts (yX7_nameOf, 24) (lw_pin3 (List.mem_of_getElem? (i := 2) rfl)) rfl rfl
theorem ws_yX7_given : Cond.selects RX7 yX7_given yX7_given ∈ rp_W0 := rp_ts (yX7_given, 24) (lw_pin3 (List.mem_of_getElem? (i := 3) rfl)) rfl rfl
theorem ws_yX7_hasText : Cond.selects RX7 yX7_hasText yX7_hasText ∈ rp_W0 := rp_ts (yX7_hasText, 24) (lw_pin3 (List.mem_of_getElem? (i := 4) rfl)) rfl rfl
theorem ws_yX7_worked : Cond.selects RX7 yX7_worked yX7_worked ∈ rp_W0 := rp_ts (yX7_worked, 24) (lw_pin3 (List.mem_of_getElem? (i := 5) rfl)) rfl rfl
theorem ws_yX7_comes : Cond.selects RX7 yX7_comes yX7_comes ∈ rp_W0 := rp_ts (yX7_comes, 24) (lw_pin3 (List.mem_of_getElem? (i := 6) rfl)) rfl rfl
theorem ws_yX7_isGuest : Cond.selects RX7 yX7_isGuest yX7_isGuest ∈ rp_W0 := rp_ts (yX7_isGuest, 24) (lw_pin3 (List.mem_of_getElem? (i := 7) rfl)) rfl rfl
theorem ws_yX7_guestIs : Cond.selects RX7 yX7_guestIs yX7_guestIs ∈ rp_W0 := rp_ts (yX7_guestIs, 24) (lw_pin3 (List.mem_of_getElem? (i := 8) rfl)) rfl rfl
theorem ws_yX7_pegOf : Cond.selects RX7 yX7_pegOf yX7_pegOf ∈ rp_W0 := rp_ts (yX7_pegOf, 24) (lw_pin3 (List.mem_of_getElem? (i := 9) rfl)) rfl rfl
theorem ws_yX7_growsNow : Cond.selects RX7 yX7_growsNow yX7_growsNow ∈ rp_W0 := rp_ts (yX7_growsNow, 24) (lw_pin3 (List.mem_of_getElem? (i := 10) rfl)) rfl rfl
theorem ws_yX7_turn : Cond.selects RX7 yX7_turn yX7_turn ∈ rp_W0 := rp_ts (yX7_turn, 24) (lw_pin3 (List.mem_of_getElem? (i := 11) rfl)) rfl rfl
theorem ws_yX7_hangs : Cond.selects RX7 yX7_hangs yX7_hangs ∈ rp_W0 := rp_ts (yX7_hangs, 24) (lw_pin3 (List.mem_of_getElem? (i := 12) rfl)) rfl rfl
theorem ws_yX7_areTwo : Cond.selects RX7 yX7_areTwo yX7_areTwo ∈ rp_W0 := rp_ts (yX7_areTwo, 24) (lw_pin3 (List.mem_of_getElem? (i := 13) rfl)) rfl rfl
theorem ws_yX7_dancing : Cond.selects RX7 yX7_dancing yX7_dancing ∈ rp_W0 := rp_ts (yX7_dancing, 24) (lw_pin3 (List.mem_of_getElem? (i := 14) rfl)) rfl rfl
theorem ws_yX7_rue : Cond.selects RX7 yX7_rue yX7_rue ∈ rp_W0 := rp_ts (yX7_rue, 24) (lw_pin3 (List.mem_of_getElem? (i := 15) rfl)) rfl rfl
theorem ws_yX7_hasDanced : Cond.selects RX7 yX7_hasDanced yX7_hasDanced ∈ rp_W0 := rp_ts (yX7_hasDanced, 24) (lw_pin4 (List.mem_of_getElem? (i := 0) rfl)) rfl rfl
theorem ws_yX7_hoursGo : Cond.selects RX7 yX7_hoursGo yX7_hoursGo ∈ rp_W0 := rp_ts (yX7_hoursGo, 24) (lw_pin4 (List.mem_of_getElem? (i := 1) rfl)) rfl rfl
theorem ws_yX7_hour : Cond.selects RX7 yX7_hour yX7_hour ∈ rp_W0 := rp_ts (yX7_hour, 24) (lw_pin4 (List.mem_of_getElem? (i := 2) rfl)) rfl rfl
theorem ws_yX7_isWrongAt : Cond.selects RX7 yX7_isWrongAt yX7_isWrongAt ∈ rp_W0 := rp_ts (yX7_isWrongAt, 24) (lw_pin4 (List.mem_of_getElem? (i := 3) rfl)) rfl rfl
theorem ws_yX7_sumOf : Cond.selects RX7 yX7_sumOf yX7_sumOf ∈ rp_W0 := rp_ts (yX7_sumOf, 24) (lw_pin4 (List.mem_of_getElem? (i := 4) rfl)) rfl rfl
theorem ws_yX7_dancesByDraws : Cond.selects RX7 yX7_dancesByDraws yX7_dancesByDraws ∈ rp_W0 := rp_ts (yX7_dancesByDraws, 24) (lw_pin4 (List.mem_of_getElem? (i := 5) rfl)) rfl rfl
theorem ws_yX7_drawn : Cond.selects RX7 yX7_drawn yX7_drawn ∈ rp_W0 := rp_ts (yX7_drawn, 24) (lw_pin4 (List.mem_of_getElem? (i := 6) rfl)) rfl rfl
theorem ws_yX7_putBack : Cond.selects RX7 yX7_putBack yX7_putBack ∈ rp_W0 := rp_ts (yX7_putBack, 24) (lw_pin4 (List.mem_of_getElem? (i := 7) rfl)) rfl rfl
theorem ws_yX7_pegWith : Cond.selects RX7 yX7_pegWith yX7_pegWith ∈ rp_W0 := rp_ts (yX7_pegWith, 24) (lw_pin4 (List.mem_of_getElem? (i := 8) rfl)) rfl rfl
theorem ws_yX7_hangsBy : Cond.selects RX7 yX7_hangsBy yX7_hangsBy ∈ rp_W0 := rp_ts (yX7_hangsBy, 24) (lw_pin4 (List.mem_of_getElem? (i := 9) rfl)) rfl rfl
theorem ws_yX7_isPair : Cond.selects RX7 yX7_isPair yX7_isPair ∈ rp_W0 := rp_ts (yX7_isPair, 24) (lw_pin4 (List.mem_of_getElem? (i := 10) rfl)) rfl rfl
theorem ws_yX7_isSoDanced : Cond.selects RX7 yX7_isSoDanced yX7_isSoDanced ∈ rp_W0 := rp_ts (yX7_isSoDanced, 24) (lw_pin4 (List.mem_of_getElem? (i := 11) rfl)) rfl rfl
theorem ws_yX7_isRight : Cond.selects RX7 yX7_isRight yX7_isRight ∈ rp_W0 := rp_ts (yX7_isRight, 24) (lw_pin4 (List.mem_of_getElem? (i := 12) rfl)) rfl rfl
theorem ws_yX7_dancesOf : Cond.selects RX7 yX7_dancesOf yX7_dancesOf ∈ rp_W0 := rp_ts (yX7_dancesOf, 24) (lw_pin4 (List.mem_of_getElem? (i := 13) rfl)) rfl rfl
theorem ws_yX7_ran : Cond.selects RX7 yX7_ran yX7_ran ∈ rp_W0 := rp_ts (yX7_ran, 24) (lw_pin4 (List.mem_of_getElem? (i := 14) rfl)) rfl rfl
theorem ws_yX7_sighsOf : Cond.selects RX7 yX7_sighsOf yX7_sighsOf ∈ rp_W0 := rp_ts (yX7_sighsOf, 24) (lw_pin4 (List.mem_of_getElem? (i := 15) rfl)) rfl rfl
theorem ws_yX7_looksOf : Cond.selects RX7 yX7_looksOf yX7_looksOf ∈ rp_W0 := rp_ts (yX7_looksOf, 24) (lw_pin5 (List.mem_of_getElem? (i := 0) rfl)) rfl rfl
theorem ws_yX7_tellsOf : Cond.selects RX7 yX7_tellsOf yX7_tellsOf ∈ rp_W0 := rp_ts (yX7_tellsOf, 24) (lw_pin5 (List.mem_of_getElem? (i := 1) rfl)) rfl rfl
theorem ws_yX7_plainTells : Cond.selects RX7 yX7_plainTells yX7_plainTells ∈ rp_W0 := rp_ts (yX7_plainTells, 24) (lw_pin5 (List.mem_of_getElem? (i := 2) rfl)) rfl rfl
theorem ws_yX7_idleOnes : Cond.selects RX7 yX7_idleOnes yX7_idleOnes ∈ rp_W0 := rp_ts (yX7_idleOnes, 24) (lw_pin5 (List.mem_of_getElem? (i := 3) rfl)) rfl rfl
end
section
/-! BASE: a system's world is a row of N cells; its state is what the int fields and int elements hold, by cell and place -/
abbrev rp_St : Type := Nat → Nat → Int32
abbrev rp_Tab : Type := Nat → (Nat → Int32) → va_E
def rp_w (a : Nat → Nat) (tab : rp_Tab) (N : Nat) (σ : rp_St) : va_W := (List.range N).map (fun k => (a k, tab k (σ k)))
def rp_A (a : Nat → Nat) (N : Nat) : Nat → Prop := fun q => ∃ k, k < N ∧ q = a k
def rp_I (a : Nat → Nat) (N : Nat) : Prop := ∀ i j, i < N → j < N → a i = a j → i = j
def rp_row (σ : rp_St) (k : Nat) (f : Nat → Int32) : rp_St := fun j => if j = k then f else σ j
def rp_put (σ : rp_St) (k i : Nat) (v : Int32) : rp_St := rp_row σ k (upd (σ k) i v)
theorem rp_w_at {a : Nat → Nat} {tab : rp_Tab} {N : Nat} {σ : rp_St} {k : Nat} (h : k < N) : (rp_w a tab N σ)[k]? = some (a k, tab k (σ k)) := by
  simp [rp_w, h]
theorem rp_w_get {a : Nat → Nat} {tab : rp_Tab} {N : Nat} {σ : rp_St} {k : Nat} {q : Nat × va_E} (h : (rp_w a tab N σ)[k]? = some q) : k < N ∧ q = (a k, tab k (σ k)) := by
  by_cases hk : k < N
  · rw [rp_w_at hk] at h
    exact ⟨hk, (Option.some.inj h).symm⟩
  · have hz : (rp_w a tab N σ)[k]? = none := by
      apply List.getElem?_eq_none
      simp [rp_w]
      omega
    rw [hz] at h
    cases h
theorem rp_w_set {a : Nat → Nat} {tab : rp_Tab} {N : Nat} {σ : rp_St} {k : Nat} {f : Nat → Int32} (h : k < N) : (rp_w a tab N σ).set k (a k, tab k f) = rp_w a tab N (rp_row σ k f) := by
  apply List.ext_getElem?
  intro j
  by_cases hj : j = k
  · subst hj
    rw [List.getElem?_set_self (by simpa [rp_w] using h), rp_w_at h]
    simp [rp_row]
  · rw [List.getElem?_set_ne (Ne.symm hj)]
    by_cases hN : j < N
    · rw [rp_w_at hN, rp_w_at hN]
      simp [rp_row, hj]
    · rw [List.getElem?_eq_none (by simp [rp_w]; omega), List.getElem?_eq_none (by simp [rp_w]; omega)]
theorem rp_w_D {a : Nat → Nat} {tab : rp_Tab} {N : Nat} {σ : rp_St} (hI : rp_I a N) : va_D (rp_A a N) (rp_w a tab N σ) := by
  refine ⟨fun i j p q hi hj h => ?_, fun k q hk => ?_⟩
  · obtain ⟨h1, rfl⟩ := rp_w_get hi
    obtain ⟨h2, rfl⟩ := rp_w_get hj
    exact hI i j h1 h2 h
  · obtain ⟨h1, rfl⟩ := rp_w_get hk
    exact ⟨k, h1, rfl⟩
/-- what stays over a method: the machine, its code, the tables' words, the classes, what a system is given -/
def rp_C (p : Program) (s : State) (m : MethodId) (args : Array Value) (meth : Method) (c : Code) (cc : ByteArray) (maxL : Nat) (own : String) (ret : Option FieldType) (D : va_G) (tys : List (ClassId × FieldType)) (a : Nat → Nat) (N : Nat) (en : State → Prop) : Prop :=
  p.tables.exec = Jvm.exec ∧ c.code = cc ∧ c.maxLocals = maxL ∧ s.vm.findClass own = some m.cls ∧ (∀ w ∈ rp_W0, w.before args s = true) ∧ meth.locks = false ∧ meth.sig.returnType = ret ∧ va_K D vwCl tys s ∧ rp_I a N ∧ en s
/-- the world now -/
def rp_W (D : va_G) (a : Nat → Nat) (tab : rp_Tab) (N : Nat) (s : State) (σ : rp_St) (H : Heap) (locs : List Loc) : Prop := va_P D vwCl (rp_w a tab N σ) H ∧ va_S (rp_A a N) s.heap H locs
/-- field i of class ci, as entry 'index' of class own's file has it -/
def rp_F (own : String) (index ci i : Nat) : Prop := ∃ (C : String) (T : u_T) (n : Nat), vwCl[ci]? = some (C, T, n) ∧ i < n ∧ (∀ w ∈ u_ws C T n, w ∈ rp_W0) ∧ Cond.fieldLink own index (T i).1 (T i).2.1 (T i).2.2.1 ∈ rp_W0
/-- the same, to write it -/
def rp_G (own : String) (index ci i : Nat) (ty : FieldType) : Prop := ∃ (C : String) (T : u_T) (n : Nat) (ty0 : Nat → FieldType), vwCl[ci]? = some (C, T, n) ∧ i < n ∧ (∀ w ∈ u_ws C T n, w ∈ rp_W0) ∧ Cond.fieldLink own index (T i).1 (T i).2.1 (T i).2.2.1 ∈ rp_W0 ∧ (∀ k, k < n → parseFieldDescriptor (T k).2.2.1 = some (ty0 k)) ∧ (∀ a, a < n → ∀ b, b < n → a ≠ b → (T a).2.1 ≠ (T b).2.1) ∧ (T i).2.2.2 = false ∧ parseFieldDescriptor (T i).2.2.1 = some ty
def rp_in (i : Int32) (n : Nat) : Bool := !decide (i < 0) && decide (i.toNatClampNeg < n)
theorem rp_in_vp {i : Int32} {n : Nat} (h : rp_in i n = true) : vp_in i n := by
  simp [rp_in] at h
  intro q
  rcases q with q | q
  · exact absurd q (by simpa using h.1)
  · omega
/-- a guard, a name, a call in a method's value -/
def rp_gu {β : Type} (b : Bool) (e : Option β) : Option β := if b = true then e else none
def rp_nm {α β : Type} (v : α) (k : α → Option β) : Option β := k v
def rp_bd {α β : Type} (x : Option (α × rp_St)) (k : α → rp_St → Option β) : Option β := match x with
  | none => none
  | some q => k q.1 q.2
/-- a loop: so many rounds at most -/
def rp_lp {X : Type} (z : X) (f : X → X) : Nat → X
  | 0 => z
  | n + 1 => f (rp_lp z f n)
theorem rp_gu_e {β : Type} {b : Bool} {e : Option β} {x : β} (h : rp_gu b e = some x) : b = true ∧ e = some x := by
  unfold rp_gu at h
  by_cases hb : b = true
  · rw [if_pos hb] at h
    exact ⟨hb, h⟩
  · rw [if_neg hb] at h
    cases h
theorem rp_nm_e {α β : Type} {v : α} {k : α → Option β} {x : β} (h : rp_nm v k = some x) : ∃ y, y = v ∧ k y = some x := ⟨v, rfl, h⟩
theorem rp_bd_e {α β : Type} {z : Option (α × rp_St)} {k : α → rp_St → Option β} {x : β} (h : rp_bd z k = some x) : ∃ q : α × rp_St, z = some q ∧ k q.1 q.2 = some x := by
  cases z with
  | none => cases h
  | some q => exact ⟨q, rfl, h⟩
theorem rp_it {β : Type} {c : Prop} [Decidable c] {e f x : β} (h : c) (hF : (if c then e else f) = x) : e = x := by rw [if_pos h] at hF; exact hF
theorem rp_if {β : Type} {c : Prop} [Decidable c] {e f x : β} (h : ¬ c) (hF : (if c then e else f) = x) : f = x := by rw [if_neg h] at hF; exact hF
/-- a method's room, by its height -/
def rp_rm (h : Nat) : Room := { frames := h, cells := 0, slots := 0, locals := 60 * h }
section RPB
variable {p : Program} {l : Launch} {e : Env} {R : Room} {s : State} {m : MethodId} {args : Array Value} {below : List Frame} {meth : Method} {c : Code} {H : Heap} {locs : List Loc} {cells slots : Nat} {Q : State → Prop}
variable {cc : ByteArray} {pc maxL : Nat} {own : String} {ret : Option FieldType} {D : va_G} {tys : List (ClassId × FieldType)} {a : Nat → Nat} {tab : rp_Tab} {N : Nat} {en : State → Prop} {σ : rp_St} {ls : Array Slot} {rest : List Value}
theorem rp_top {x y : Int32} (h : y = x) (k : W p l e R s m args below meth c H locs cells slots Q (F0 m pc ls (.int y :: rest))) : W p l e R s m args below meth c H locs cells slots Q (F0 m pc ls (.int x :: rest)) := h ▸ k
theorem rp_get (hC : rp_C p s m args meth c cc maxL own ret D tys a N en) (hw : rp_W D a tab N s σ H locs) (k : Nat) (hk : k < N) {ci : Nat} {fs : List Value} (ht : tab k (σ k) = .inr (ci, fs)) {i index : Nat} (hF : rp_F own index ci i) (v : Value) (hv : fs[i]? = some v) (hd : decode cc pc = .ok (.getfield index, 3))
    (kk : W p l e R s m args below meth c H locs cells slots Q (F0 m (pc + 3) ls (v :: rest))) : W p l e R s m args below meth c H locs cells slots Q (F0 m pc ls (.ref (a k) :: rest)) := by
  obtain ⟨hx, hb, hml, hown, hts, hlk, hr, hK, hI, hE⟩ := hC
  obtain ⟨C, T, n, h1, h2, h3, h4⟩ := hF
  exact va_get hx hb hts h3 hown hK hw.1 k (by rw [rp_w_at hk, ht]) h1 i h2 (hts _ h4) (fun _ h => h) hv hd kk
theorem rp_set (hC : rp_C p s m args meth c cc maxL own ret D tys a N en) (hw : rp_W D a tab N s σ H locs) (k : Nat) (hk : k < N) {ci : Nat} {fs : (Nat → Int32) → List Value} (ht : ∀ f, tab k f = .inr (ci, fs f)) {i index : Nat} {ty : FieldType} (hF : rp_G own index ci i ty) {v : Int32} (hset : (fs (σ k)).set i (.int v) = fs (upd (σ k) i v)) (hlen : i < (fs (σ k)).length) (hn : narrow ty (.int v) = .int v) (hf : fits ty (.int v) = true) (hd : decode cc pc = .ok (.putfield index, 3))
    (kk : ∀ (H1 : Heap) (locs1 : List Loc), rp_W D a tab N s (rp_put σ k i v) H1 locs1 → W p l e R s m args below meth c H1 locs1 cells slots Q (F0 m (pc + 3) ls rest)) : W p l e R s m args below meth c H locs cells slots Q (F0 m pc ls (.int v :: .ref (a k) :: rest)) := by
  obtain ⟨hx, hb, hml, hown, hts, hlk, hr, hK, hI, hE⟩ := hC
  obtain ⟨C, T, n, ty0, h1, h2, h3, h4, h5, h6, h7, h8⟩ := hF
  refine va_put hx hb hts h3 ty0 h5 h6 hown hK hw.1 (rp_w_D hI) hw.2 k (by rw [rp_w_at hk, ht]) h1 i h2 (hts _ h4) (fun _ h => h) h7 h8 hn hf hlen hd (fun H1 locs1 hP hD hS => kk H1 locs1 ⟨?_, hS⟩)
  rw [hset, ← ht, rp_w_set hk] at hP
  exact hP
theorem rp_ald (hC : rp_C p s m args meth c cc maxL own ret D tys a N en) (hw : rp_W D a tab N s σ H locs) (k : Nat) (hk : k < N) {cA : ClassId} {n : Nat} (ht : ∀ f, tab k f = .inl (cA, n, .inl f)) (t0 : Nat) (hty : tys[t0]? = some (cA, .int)) {i : Int32} (hin : rp_in i n = true) (hd : decode cc pc = .ok (.iaload, 1))
    (kk : W p l e R s m args below meth c H locs cells slots Q (F0 m (pc + 1) ls (.int (σ k i.toNatClampNeg) :: rest))) : W p l e R s m args below meth c H locs cells slots Q (F0 m pc ls (.int i :: .ref (a k) :: rest)) := by
  obtain ⟨hx, hb, hml, hown, hts, hlk, hr, hK, hI, hE⟩ := hC
  exact va_iald hx hb hK hw.1 k t0 (by rw [rp_w_at hk, ht]) hty (rp_in_vp hin) hd kk
theorem rp_bald (hC : rp_C p s m args meth c cc maxL own ret D tys a N en) (hw : rp_W D a tab N s σ H locs) (k : Nat) (hk : k < N) {cA : ClassId} {n : Nat} (ht : ∀ f, tab k f = .inl (cA, n, .inl f)) (t0 : Nat) (hty : tys[t0]? = some (cA, .byte)) {i : Int32} (hin : rp_in i n = true) (hd : decode cc pc = .ok (.baload, 1))
    (kk : W p l e R s m args below meth c H locs cells slots Q (F0 m (pc + 1) ls (.int (σ k i.toNatClampNeg) :: rest))) : W p l e R s m args below meth c H locs cells slots Q (F0 m pc ls (.int i :: .ref (a k) :: rest)) := by
  obtain ⟨hx, hb, hml, hown, hts, hlk, hr, hK, hI, hE⟩ := hC
  exact va_bald hx hb hK hw.1 k t0 (by rw [rp_w_at hk, ht]) hty (rp_in_vp hin) hd kk
theorem rp_aald (hC : rp_C p s m args meth c cc maxL own ret D tys a N en) (hw : rp_W D a tab N s σ H locs) (k : Nat) (hk : k < N) {cA : ClassId} {n : Nat} {g : Nat → Option Nat} (ht : ∀ f, tab k f = .inl (cA, n, .inr (.inr (.inr (.inr g))))) (t0 : Nat) {C : String} (hty : tys[t0]? = some (cA, .object C)) {i : Int32} (hin : rp_in i n = true) (hd : decode cc pc = .ok (.aaload, 1))
    (kk : W p l e R s m args below meth c H locs cells slots Q (F0 m (pc + 1) ls (va_rf (g i.toNatClampNeg) :: rest))) : W p l e R s m args below meth c H locs cells slots Q (F0 m pc ls (.int i :: .ref (a k) :: rest)) := by
  obtain ⟨hx, hb, hml, hown, hts, hlk, hr, hK, hI, hE⟩ := hC
  exact va_aldq hx hb hK hw.1 k t0 (by rw [rp_w_at hk, ht]) hty (rp_in_vp hin) hd kk
theorem rp_alen (hC : rp_C p s m args meth c cc maxL own ret D tys a N en) (hw : rp_W D a tab N s σ H locs) (k : Nat) (hk : k < N) {cA : ClassId} {x : vp_A} (ht : tab k (σ k) = .inl (cA, x)) (t0 : Nat) {ty : FieldType} (hty : tys[t0]? = some (cA, ty)) (v : Int32) (hv : Int32.ofNat x.1 = v) (hd : decode cc pc = .ok (.arraylength, 1))
    (kk : W p l e R s m args below meth c H locs cells slots Q (F0 m (pc + 1) ls (.int v :: rest))) : W p l e R s m args below meth c H locs cells slots Q (F0 m pc ls (.ref (a k) :: rest)) := by
  obtain ⟨hx, hb, hml, hown, hts, hlk, hr, hK, hI, hE⟩ := hC
  exact va_alen hx hb hK hw.1 k t0 (by rw [rp_w_at hk, ht]) hty hv hd kk
theorem rp_ast (hC : rp_C p s m args meth c cc maxL own ret D tys a N en) (hw : rp_W D a tab N s σ H locs) (k : Nat) (hk : k < N) {cA : ClassId} {n : Nat} (ht : ∀ f, tab k f = .inl (cA, n, .inl f)) (t0 : Nat) (hty : tys[t0]? = some (cA, .int)) {i v : Int32} (hin : rp_in i n = true) (hd : decode cc pc = .ok (.iastore, 1))
    (kk : ∀ (H1 : Heap) (locs1 : List Loc), rp_W D a tab N s (rp_put σ k i.toNatClampNeg v) H1 locs1 → W p l e R s m args below meth c H1 locs1 cells slots Q (F0 m (pc + 1) ls rest)) : W p l e R s m args below meth c H locs cells slots Q (F0 m pc ls (.int v :: .int i :: .ref (a k) :: rest)) := by
  obtain ⟨hx, hb, hml, hown, hts, hlk, hr, hK, hI, hE⟩ := hC
  refine va_iast hx hb hK hw.1 (rp_w_D hI) hw.2 k t0 (by rw [rp_w_at hk, ht]) hty (rp_in_vp hin) hd (fun H1 locs1 hP hD hS => kk H1 locs1 ⟨?_, hS⟩)
  rw [← ht, rp_w_set hk] at hP
  exact hP
theorem rp_bast (hC : rp_C p s m args meth c cc maxL own ret D tys a N en) (hw : rp_W D a tab N s σ H locs) (k : Nat) (hk : k < N) {cA : ClassId} {n : Nat} (ht : ∀ f, tab k f = .inl (cA, n, .inl f)) (t0 : Nat) (hty : tys[t0]? = some (cA, .byte)) {i v : Int32} (hin : rp_in i n = true) (hd : decode cc pc = .ok (.bastore, 1))
    (kk : ∀ (H1 : Heap) (locs1 : List Loc), rp_W D a tab N s (rp_put σ k i.toNatClampNeg (vp_nar .byte v)) H1 locs1 → W p l e R s m args below meth c H1 locs1 cells slots Q (F0 m (pc + 1) ls rest)) : W p l e R s m args below meth c H locs cells slots Q (F0 m pc ls (.int v :: .int i :: .ref (a k) :: rest)) := by
  obtain ⟨hx, hb, hml, hown, hts, hlk, hr, hK, hI, hE⟩ := hC
  refine va_bast hx hb hK hw.1 (rp_w_D hI) hw.2 k t0 (by rw [rp_w_at hk, ht]) hty (rp_in_vp hin) hd (fun H1 locs1 hP hD hS => kk H1 locs1 ⟨?_, hS⟩)
  rw [← ht, rp_w_set hk] at hP
  exact hP
/-- System.arraycopy between two rows of ints -/
theorem rp_cpyi (hC : rp_C p s m args meth c cc maxL own ret D tys a N en) (hw : rp_W D a tab N s σ H locs) (hls : ls.size = maxL) (j k : Nat) (hj : j < N) (hk : k < N) {cA : ClassId} {n0 n1 : Nat} (htj : ∀ f, tab j f = .inl (cA, n0, .inl f)) (htk : ∀ f, tab k f = .inl (cA, n1, .inl f)) (t0 : Nat) (hty : tys[t0]? = some (cA, .int)) {index : Nat} (hm : Cond.methodLink own index arraycopyName ∈ rp_W0) (hm2 : Cond.native arraycopyName ∈ rp_W0) (hm3 : Cond.static arraycopyName ∈ rp_W0) (hm4 : Cond.initialized "java/lang/System" ∈ rp_W0) {sp dp n : Int32} (hg : (!decide (sp < 0) && !decide (dp < 0) && !decide (n < 0) && decide (sp.toNatClampNeg + n.toNatClampNeg ≤ n0) && decide (dp.toNatClampNeg + n.toNatClampNeg ≤ n1)) = true) (hfr : 1 ≤ R.frames) (hlo : (rest.map fun v => v.category).sum + (nativeFrameWords "java/lang/System" "arraycopy" 5 + 11) ≤ R.locals) (hd : decode cc pc = .ok (.invokestatic index, 3))
    (kk : ∀ (H1 : Heap) (locs1 : List Loc), rp_W D a tab N s (rp_row σ k (va_cpy (σ j) (σ k) sp.toNatClampNeg dp.toNatClampNeg n.toNatClampNeg)) H1 locs1 → W p l e R s m args below meth c H1 locs1 cells slots Q (F0 m (pc + 3) ls rest)) : W p l e R s m args below meth c H locs cells slots Q (F0 m pc ls (.int n :: .int dp :: .ref (a k) :: .int sp :: .ref (a j) :: rest)) := by
  obtain ⟨hx, hb, hml, hown, hts, hlk, hr, hK, hI, hE⟩ := hC
  simp only [Bool.and_eq_true, Bool.not_eq_true', decide_eq_false_iff_not, decide_eq_true_eq] at hg
  obtain ⟨⟨⟨⟨g1, g2⟩, g3⟩, g4⟩, g5⟩ := hg
  refine va_copyi hx hb (hml.trans hls.symm) hown (hts _ hm) (hts _ hm2) (hts _ hm3) (hts _ hm4) hK hw.1 (rp_w_D hI) hw.2 j k t0 t0 (by rw [rp_w_at hj, htj]) (by rw [rp_w_at hk, htk]) hty hty rfl g1 g2 g3 g4 g5 (fun i _ => rfl) hfr hlo hd (fun H1 locs1 hP hD hS => kk H1 locs1 ⟨?_, hS⟩)
  rw [← htk, rp_w_set hk] at hP
  exact hP
end RPB
end
section
/-! CONTRACTS over a system's world -/
def rp_P (D : va_G) (tys : List (ClassId × FieldType)) (a : Nat → Nat) (tab : rp_Tab) (N : Nat) (en : State → Prop) (σ : rp_St) (U : State) : Prop := va_P D vwCl (rp_w a tab N σ) U.heap ∧ va_K D vwCl tys U ∧ rp_I a N ∧ en U
abbrev rp_Qi (D : va_G) (a : Nat → Nat) (tab : rp_Tab) (N : Nat) (res : Int32 × rp_St) : Array Value → State → Outcome → State → Prop := va_Qi (fun r (_ : Unit) => r = res.1) (fun _ t => va_P D vwCl (rp_w a tab N res.2) t.heap) (rp_A a N)
abbrev rp_Qv (D : va_G) (a : Nat → Nat) (tab : rp_Tab) (N : Nat) (res : Int32 × rp_St) : Array Value → State → Outcome → State → Prop := va_Qv (fun (_ : Unit) => True) (fun _ t => va_P D vwCl (rp_w a tab N res.2) t.heap) (rp_A a N)
abbrev rp_Qr (D : va_G) (a : Nat → Nat) (tab : rp_Tab) (N : Nat) (res : Nat × rp_St) : Array Value → State → Outcome → State → Prop := va_Qr (fun (_ : Unit) => True) (fun _ ra t => ra = a res.1 ∧ va_P D vwCl (rp_w a tab N res.2) t.heap) (rp_A a N)
def rp_M (l : Launch) (D : va_G) (tys : List (ClassId × FieldType)) (a : Nat → Nat) (tab : rp_Tab) (N : Nat) (en : State → Prop) (y : MethodName) (cc : ByteArray) (maxL : Nat) (ret : Option FieldType) (h : Nat) (avs : List Value) (σ : rp_St) (Qc : Array Value → State → Outcome → State → Prop) : Prop := Met l y (.code y cc maxL ret :: rp_W0) (rp_rm h) (va_Pc avs (rp_P D tys a tab N en σ)) Qc 0 0 (rp_A a N)
/-- what a system is given stays, whatever the system does -/
def rp_E (A : Nat → Prop) (en : State → Prop) : Prop := ∀ (s U : State) (locs : List Loc), en s → s.WarmedH U.vm → va_S A s.heap U.heap locs → en U
/-- the words of a call -/
def rp_V (own : String) (index : Nat) (C : String) (y : MethodName) (cc : ByteArray) (maxL : Nat) (ret : Option FieldType) (n : Nat) : Prop := Cond.methodLink own index y ∈ rp_W0 ∧ Cond.instanceMethod y ∈ rp_W0 ∧ Cond.selects C y y ∈ rp_W0 ∧ Cond.initialized C ∈ rp_W0 ∧ Cond.code y cc maxL ret ∈ rp_W0 ∧ (y.cls = C ∧ y.cls ≠ "java/lang/invoke/MethodHandle" ∧ y.cls ≠ "java/lang/invoke/VarHandle" ∧ (parseMethodDescriptor y.desc).map (fun d => d.parameters.length) = some n) ∧ maxL ≤ 41
def rp_Z (own : String) (index : Nat) (y : MethodName) (cc : ByteArray) (maxL : Nat) (ret : Option FieldType) (n : Nat) : Prop := Cond.methodLink own index y ∈ rp_W0 ∧ Cond.static y ∈ rp_W0 ∧ Cond.initialized own ∈ rp_W0 ∧ Cond.code y cc maxL ret ∈ rp_W0 ∧ (y.cls = own ∧ y.cls ≠ "java/lang/invoke/MethodHandle" ∧ y.cls ≠ "java/lang/invoke/VarHandle" ∧ (parseMethodDescriptor y.desc).map (fun d => d.parameters.length) = some n) ∧ maxL ≤ 41
theorem rp_good1 {y : MethodName} {cc : ByteArray} {maxL : Nat} {ret : Option FieldType} (h : Cond.code y cc maxL ret ∈ rp_W0) : GoodIn rp_W0 (Cond.code y cc maxL ret :: rp_W0) := fun w hw => (List.mem_cons.mp hw).elim (fun e => e ▸ rp_W0_good _ h) (rp_W0_good w)
theorem rp_goodV {own : String} {index : Nat} {C : String} {y : MethodName} {cc : ByteArray} {maxL : Nat} {ret : Option FieldType} {n : Nat} (h : rp_V own index C y cc maxL ret n) : GoodIn rp_W0 (wsV own index C y (Cond.code y cc maxL ret :: rp_W0)) := by
  obtain ⟨h1, h2, h3, h4, h5, -⟩ := h
  intro w hw
  unfold wsV at hw
  rcases List.mem_append.mp hw with q | q
  · simp only [List.mem_cons, List.not_mem_nil, or_false] at q
    rcases q with rfl | rfl | rfl | rfl
    · exact rp_W0_good _ h1
    · exact rp_W0_good _ h2
    · exact rp_W0_good _ h3
    · exact rp_W0_good _ h4
  · exact rp_good1 h5 w q
theorem rp_goodZ {own : String} {index : Nat} {y : MethodName} {cc : ByteArray} {maxL : Nat} {ret : Option FieldType} {n : Nat} (h : rp_Z own index y cc maxL ret n) : GoodIn rp_W0 (wsS own index y (Cond.code y cc maxL ret :: rp_W0)) := by
  obtain ⟨h1, h2, h3, h5, -⟩ := h
  intro w hw
  unfold wsS at hw
  rcases List.mem_append.mp hw with q | q
  · simp only [List.mem_cons, List.not_mem_nil, or_false] at q
    rcases q with rfl | rfl | rfl
    · exact rp_W0_good _ h1
    · exact rp_W0_good _ h2
    · exact rp_W0_good _ h3
  · exact rp_good1 h5 w q
section RPC
variable {p : Program} {l : Launch} {e : Env} {R : Room} {s : State} {m : MethodId} {args : Array Value} {below : List Frame} {meth : Method} {c : Code} {H : Heap} {locs : List Loc} {cells slots : Nat} {Q : State → Prop}
variable {cc : ByteArray} {pc maxL : Nat} {own : String} {ret : Option FieldType} {D : va_G} {tys : List (ClassId × FieldType)} {a : Nat → Nat} {tab : rp_Tab} {N : Nat} {en : State → Prop} {σ : rp_St} {ls : Array Slot} {rest : List Value}
theorem rp_blind {avs : List Value} (hE : rp_E (rp_A a N) en) : FrameBlind (va_Pc avs (rp_P D tys a tab N en σ)) := by
  intro b U g mk q
  obtain ⟨h0, hP, hK, hI, hN⟩ := q
  exact ⟨h0, hP, va_K.moved (u := U) (U := U.calling g mk b) (Vm.Alike.refl U.vm) hK, hI, hE U (U.calling g mk b) [] hN (State.WarmedH.refl U) va_S.rf⟩
theorem rp_pre {avs : List Value} (hC : rp_C p s m args meth c cc maxL own ret D tys a N en) (hE : rp_E (rp_A a N) en) (hw : rp_W D a tab N s σ H locs) : PreS s H (va_Pc avs (rp_P D tys a tab N en σ)) avs := by
  obtain ⟨hx, hb, hml, hown, hts, hlk, hr, hK, hI, hN⟩ := hC
  exact ⟨rp_blind hE, fun U hU hW => ⟨rfl, by rw [hU]; exact hw.1, va_K.moved hW.alike hK, hI, hE s U locs hN hW (by rw [hU]; exact hw.2)⟩⟩
theorem rp_entry {Qc : Array Value → State → Outcome → State → Prop} {y : MethodName} {h : Nat} {avs : List Value} (hy : plainName y.cls = true) (hlen : (lg_sl avs).length ≤ maxL)
    (body : ∀ (p : Program) (e : Env) (s : State) (m : MethodId) (below : List Frame) (meth : Method) (c : Code) (ls : Array Slot), rp_C p s m avs.toArray meth c cc maxL y.cls ret D tys a N en → rp_W D a tab N s σ s.heap [] → lv_has ls maxL (lv_args 0 avs) → W p l e (rp_rm h) s m avs.toArray below meth c s.heap [] 0 0 (MQ below Qc avs.toArray s 0 0 (rp_A a N)) (F0 m 0 ls [])) : rp_M l D tys a tab N en y cc maxL ret h avs σ Qc := by
  refine Met.ofW (cc := cc) (maxL := maxL) (ret := ret) hy rfl ?_
  intro p e s m args below meth c s₁ B hml hv
  obtain ⟨rfl, hP, hK, hI, hN⟩ := hv
  have hts := atoms_spec (ws := Cond.code y cc maxL ret :: rp_W0) B.pre
  have hown : s.vm.findClass y.cls = some m.cls := findClass_of_methodNamed B.named
  have hl := lv_entry avs (n := maxL) hlen
  rw [lg_entry_eq]
  exact body p e s m below meth c _ ⟨B.exec, B.bytes, hml, hown, fun w hw => hts w (List.mem_cons_of_mem _ hw), B.notSynchronized, B.returns, hK, hI, hN⟩ ⟨hP, va_S.rf⟩ hl
theorem rp_reti {res : Int32 × rp_St} {v : Int32} (hC : rp_C p s m args meth c cc maxL own (some .int) D tys a N en) (hw : rp_W D a tab N s σ H locs) (hF : some (v, σ) = some res) (hd : decode cc pc = .ok (.ireturn, 1)) : W p l e R s m args below meth c H locs 0 0 (MQ below (rp_Qi D a tab N res) args s 0 0 (rp_A a N)) (F0 m pc ls [.int v]) := by
  obtain ⟨hx, hb, hml, hown, hts, hlk, hr, hK, hI, hN⟩ := hC
  cases hF
  exact W.iret hx hb hr (fun t ht hW => ⟨⟨v, (), rfl, rfl, by show va_P _ _ _ t.heap; rw [ht]; exact hw.1⟩, hw.2.F ht⟩) hw.2.2.2 hd hlk
theorem rp_nz {v : Int32} (h : (v == 0 || v == 1) = true) : narrow .boolean (.int v) = .int v ∧ fits .boolean (.int v) = true := by
  simp only [Bool.or_eq_true, beq_iff_eq] at h
  rcases h with rfl | rfl
  · exact ⟨by decide +kernel, by decide +kernel⟩
  · exact ⟨by decide +kernel, by decide +kernel⟩
theorem rp_retz {res : Int32 × rp_St} {v : Int32} (hC : rp_C p s m args meth c cc maxL own (some .boolean) D tys a N en) (hw : rp_W D a tab N s σ H locs) (hz : (v == 0 || v == 1) = true) (hF : some (v, σ) = some res) (hd : decode cc pc = .ok (.ireturn, 1)) : W p l e R s m args below meth c H locs 0 0 (MQ below (rp_Qi D a tab N res) args s 0 0 (rp_A a N)) (F0 m pc ls [.int v]) := by
  obtain ⟨hx, hb, hml, hown, hts, hlk, hr, hK, hI, hN⟩ := hC
  cases hF
  exact W.zret hx hb hr (rp_nz hz).1 (fun t ht hW => ⟨⟨v, (), rfl, rfl, by show va_P _ _ _ t.heap; rw [ht]; exact hw.1⟩, hw.2.F ht⟩) hw.2.2.2 hd hlk
theorem rp_retv {res : Int32 × rp_St} {v : Int32} (hC : rp_C p s m args meth c cc maxL own none D tys a N en) (hw : rp_W D a tab N s σ H locs) (hF : some (v, σ) = some res) (hd : decode cc pc = .ok (.return_, 1)) : W p l e R s m args below meth c H locs 0 0 (MQ below (rp_Qv D a tab N res) args s 0 0 (rp_A a N)) (F0 m pc ls []) := by
  obtain ⟨hx, hb, hml, hown, hts, hlk, hr, hK, hI, hN⟩ := hC
  cases hF
  exact W.vret hx hb hr (fun t ht hW => ⟨⟨(), rfl, trivial, by show va_P _ _ _ t.heap; rw [ht]; exact hw.1⟩, hw.2.F ht⟩) hw.2.2.2 hd hlk
theorem rp_reta {res : Nat × rp_St} {k : Nat} {C : String} (hC : rp_C p s m args meth c cc maxL own (some (.object C)) D tys a N en) (hw : rp_W D a tab N s σ H locs) (hF : some (k, σ) = some res) (hd : decode cc pc = .ok (.areturn, 1)) : W p l e R s m args below meth c H locs 0 0 (MQ below (rp_Qr D a tab N res) args s 0 0 (rp_A a N)) (F0 m pc ls [.ref (a k)]) := by
  obtain ⟨hx, hb, hml, hown, hts, hlk, hr, hK, hI, hN⟩ := hC
  cases hF
  exact W.aret hx hb hr (Or.inl ⟨C, rfl⟩) (Or.inr ⟨_, rfl⟩) (fun t ht hW => ⟨⟨(), _, rfl, trivial, rfl, by show va_P _ _ _ t.heap; rw [ht]; exact hw.1⟩, hw.2.F ht⟩) hw.2.2.2 hd hlk
variable {y : MethodName} {cc' : ByteArray} {maxL' : Nat} {ret' : Option FieldType} {h h' n index k ci : Nat} {As : List Value} {fs st : List Value} {C : String} {T : u_T} {nf : Nat}
theorem rp_runV {Qc : Array Value → State → Outcome → State → Prop} (hC : rp_C p s m args meth c cc maxL own ret D tys a N en) (hE : rp_E (rp_A a N) en) (hw : rp_W D a tab N s σ H locs) (hls : ls.size = maxL) (hM : rp_M l D tys a tab N en y cc' maxL' ret' h' (.ref (a k) :: As) σ Qc) (hV : rp_V own index C y cc' maxL' ret' n) (hk : k < N) (ht : tab k (σ k) = .inr (ci, fs)) (hci : vwCl[ci]? = some (C, T, nf)) (hn : As.length = n) (hst : st = As.reverse ++ .ref (a k) :: rest) (hcat : (rest.map fun v => v.category).sum ≤ 8) (hh : h' < h) (hd : decode cc pc = .ok (.invokevirtual index, 3)) :
    va_Run p l e (rp_rm h) s m args below meth c H locs 0 0 0 0 (F0 m pc ls st) rest (Qc (Value.ref (a k) :: As).toArray) (rp_A a N) := by
  have hpre := rp_pre (avs := .ref (a k) :: As) hC hE hw
  obtain ⟨hx, hb, hml, hown, hts, hlk, hr, hK, hI, hN⟩ := hC
  have cw : CallW (rp_rm h) s args own C index y cc' maxL' ret' (Cond.code y cc' maxL' ret' :: rp_W0) (rp_rm h') 0 0 n := cwV n hts (rp_goodV hV) rfl rfl rfl hV.2.2.2.2.2.1 ⟨hh, by have := hV.2.2.2.2.2.2; show 8 + (maxL' + 11) + 60 * h' ≤ 60 * h; omega⟩
  exact va_runV (nL := maxL) ⟨hx, hb, hml, hown, hts⟩ hM cw ⟨hpre.1, va_recv hK hw.1 hci (q0 := k) (by rw [rp_w_at hk, ht]), hpre.2⟩ rfl hn hls hst (lv_room hcat) hd ⟨Nat.le_refl _, Nat.le_refl _⟩
theorem rp_runZ {Qc : Array Value → State → Outcome → State → Prop} (hC : rp_C p s m args meth c cc maxL own ret D tys a N en) (hE : rp_E (rp_A a N) en) (hw : rp_W D a tab N s σ H locs) (hls : ls.size = maxL) (hM : rp_M l D tys a tab N en y cc' maxL' ret' h' As σ Qc) (hV : rp_Z own index y cc' maxL' ret' n) (hn : As.length = n) (hst : st = As.reverse ++ rest) (hcat : (rest.map fun v => v.category).sum ≤ 8) (hh : h' < h) (hd : decode cc pc = .ok (.invokestatic index, 3)) :
    va_Run p l e (rp_rm h) s m args below meth c H locs 0 0 0 0 (F0 m pc ls st) rest (Qc As.toArray) (rp_A a N) := by
  have hpre := rp_pre (avs := As) hC hE hw
  obtain ⟨hx, hb, hml, hown, hts, hlk, hr, hK, hI, hN⟩ := hC
  exact va_runS (nL := maxL) ⟨hx, hb, hml, hown, hts⟩ hM (cwS n hts (rp_goodZ hV) rfl rfl rfl hV.2.2.2.2.1 ⟨hh, by have := hV.2.2.2.2.2; show 8 + (maxL' + 11) + 60 * h' ≤ 60 * h; omega⟩) hpre rfl hn hls hst (lv_room hcat) hd ⟨Nat.le_refl _, Nat.le_refl _⟩
/-- behind a call: the answer, and the world as the callee left it -/
theorem rp_ki {res : Int32 × rp_St} {av : Array Value} (hr : va_Run p l e R s m args below meth c H locs 0 0 0 0 (F0 m pc ls st) rest (rp_Qi D a tab N res av) (rp_A a N)) (hw : rp_W D a tab N s σ H locs) (kk : ∀ (H1 : Heap) (locs1 : List Loc), rp_W D a tab N s res.2 H1 locs1 → W p l e R s m args below meth c H1 locs1 0 0 Q (F0 m (pc + 3) ls (.int res.1 :: rest))) : W p l e R s m args below meth c H locs 0 0 Q (F0 m pc ls st) := by
  refine va_calli hr hw.2 (fun _ _ h => h) (fun _ h => h) (fun r u t H1 locs1 ht hvm hp hB hz hk hS => ?_)
  subst hp
  rw [ht] at hB
  exact kk H1 locs1 ⟨hB, hS⟩
theorem rp_kv {res : Int32 × rp_St} {av : Array Value} (hr : va_Run p l e R s m args below meth c H locs 0 0 0 0 (F0 m pc ls st) rest (rp_Qv D a tab N res av) (rp_A a N)) (hw : rp_W D a tab N s σ H locs) (kk : ∀ (H1 : Heap) (locs1 : List Loc), rp_W D a tab N s res.2 H1 locs1 → W p l e R s m args below meth c H1 locs1 0 0 Q (F0 m (pc + 3) ls rest)) : W p l e R s m args below meth c H locs 0 0 Q (F0 m pc ls st) := by
  refine va_callv hr hw.2 (fun _ _ h => h) (fun _ h => h) (fun u t H1 locs1 ht hvm hp hB hz hk hS => ?_)
  rw [ht] at hB
  exact kk H1 locs1 ⟨hB, hS⟩
theorem rp_kr {res : Nat × rp_St} {av : Array Value} (hr : va_Run p l e R s m args below meth c H locs 0 0 0 0 (F0 m pc ls st) rest (rp_Qr D a tab N res av) (rp_A a N)) (hw : rp_W D a tab N s σ H locs) (kk : ∀ (H1 : Heap) (locs1 : List Loc), rp_W D a tab N s res.2 H1 locs1 → W p l e R s m args below meth c H1 locs1 0 0 Q (F0 m (pc + 3) ls (.ref (a res.1) :: rest))) : W p l e R s m args below meth c H locs 0 0 Q (F0 m pc ls st) := by
  refine va_callr hr hw.2 (fun _ _ h => h) (fun _ h => h) (fun u ra t H1 locs1 ht hvm hp hB hz hk hS => ?_)
  obtain ⟨rfl, hB⟩ := hB
  rw [ht] at hB
  exact kk H1 locs1 ⟨hB, hS⟩
theorem rp_max {x z : Int32} (hC : rp_C p s m args meth c cc maxL own ret D tys a N en) (hls : ls.size = maxL) (hm : Cond.methodLink own index Lib.Math.max.name ∈ rp_W0) (hm2 : Cond.static Lib.Math.max.name ∈ rp_W0) (hm3 : Cond.initialized "java/lang/Math" ∈ rp_W0) (hm4 : Cond.code Lib.Math.max.name Lib.Math.max.code 2 (some .int) ∈ rp_W0) (hcat : (rest.map fun v => v.category).sum ≤ 8) (hh : 0 < h) (hd : decode cc pc = .ok (.invokestatic index, 3))
    (kk : W p l e (rp_rm h) s m args below meth c H locs 0 0 Q (F0 m (pc + 3) ls (.int (if x < z then z else x) :: rest))) : W p l e (rp_rm h) s m args below meth c H locs 0 0 Q (F0 m pc ls (.int z :: .int x :: rest)) := by
  obtain ⟨hx, hb, hml, hown, hts, hlk, hr, hK, hI, hN⟩ := hC
  exact va_mmax (R := rp_rm h) hx hb (hml.trans hls.symm) hown (hts _ hm) (hts _ hm2) (hts _ hm3) (hts _ hm4) hh (by show _ ≤ 60 * h; omega) (Nat.zero_le _) (Nat.zero_le _) hd kk
theorem rp_min {x z : Int32} (hC : rp_C p s m args meth c cc maxL own ret D tys a N en) (hls : ls.size = maxL) (hm : Cond.methodLink own index Lib.Math.min.name ∈ rp_W0) (hm2 : Cond.static Lib.Math.min.name ∈ rp_W0) (hm3 : Cond.initialized "java/lang/Math" ∈ rp_W0) (hm4 : Cond.code Lib.Math.min.name Lib.Math.min.code 2 (some .int) ∈ rp_W0) (hcat : (rest.map fun v => v.category).sum ≤ 8) (hh : 0 < h) (hd : decode cc pc = .ok (.invokestatic index, 3))
    (kk : W p l e (rp_rm h) s m args below meth c H locs 0 0 Q (F0 m (pc + 3) ls (.int (if z < x then z else x) :: rest))) : W p l e (rp_rm h) s m args below meth c H locs 0 0 Q (F0 m pc ls (.int z :: .int x :: rest)) := by
  obtain ⟨hx, hb, hml, hown, hts, hlk, hr, hK, hI, hN⟩ := hC
  exact va_mmin (R := rp_rm h) hx hb (hml.trans hls.symm) hown (hts _ hm) (hts _ hm2) (hts _ hm3) (hts _ hm4) hh (by show _ ≤ 60 * h; omega) (Nat.zero_le _) (Nat.zero_le _) hd kk
end RPC
end
