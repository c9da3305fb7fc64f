section
/-! the tables words (skeleton, part A) -/
/-- a private method of a class that the tables say can be made, by its rows of tables_1 -/
def lw_okq (q : MethodName × Nat) : Prop := (q.1.cls ≠ "java/lang/invoke/MethodHandle" ∧ q.1.cls ≠ "java/lang/invoke/VarHandle") ∧ Cond.instantiable q.1.cls q.2 ∈ tables_1 ∧ Cond.privateMethod q.1 ∈ tables_1 ∧ Cond.instanceMethod q.1 ∈ tables_1
theorem lw_p0 : lw_okq (⟨"SpadeRings$Script", "cutIntoTokens", "()V"⟩, 6) := ⟨⟨by decide +kernel, by decide +kernel⟩, List.mem_of_getElem? (i := 28) (by decide +kernel), List.mem_of_getElem? (i := 382) (by decide +kernel), List.mem_of_getElem? (i := 383) (by decide +kernel)⟩
theorem lw_p1 : lw_okq (⟨"SpadeRings$Script", "behindBlanks", "(I)I"⟩, 6) := ⟨⟨by decide +kernel, by decide +kernel⟩, List.mem_of_getElem? (i := 28) (by decide +kernel), List.mem_of_getElem? (i := 386) (by decide +kernel), List.mem_of_getElem? (i := 387) (by decide +kernel)⟩
theorem lw_p2 : lw_okq (⟨"SpadeRings$Script", "endOfToken", "(I)I"⟩, 6) := ⟨⟨by decide +kernel, by decide +kernel⟩, List.mem_of_getElem? (i := 28) (by decide +kernel), List.mem_of_getElem? (i := 393) (by decide +kernel), List.mem_of_getElem? (i := 394) (by decide +kernel)⟩
theorem lw_p3 : lw_okq (⟨"SpadeRings$Script", "tokenOf", "(II)I"⟩, 6) := ⟨⟨by decide +kernel, by decide +kernel⟩, List.mem_of_getElem? (i := 28) (by decide +kernel), List.mem_of_getElem? (i := 403) (by decide +kernel), List.mem_of_getElem? (i := 404) (by decide +kernel)⟩
theorem lw_p4 : lw_okq (⟨"SpadeRings$Script", "numberOf", "(II)I"⟩, 6) := ⟨⟨by decide +kernel, by decide +kernel⟩, List.mem_of_getElem? (i := 28) (by decide +kernel), List.mem_of_getElem? (i := 407) (by decide +kernel), List.mem_of_getElem? (i := 408) (by decide +kernel)⟩
theorem lw_p5 : lw_okq (⟨"SpadeRings$Script", "wordOf", "(II)I"⟩, 6) := ⟨⟨by decide +kernel, by decide +kernel⟩, List.mem_of_getElem? (i := 28) (by decide +kernel), List.mem_of_getElem? (i := 411) (by decide +kernel), List.mem_of_getElem? (i := 412) (by decide +kernel)⟩
theorem lw_p6 : lw_okq (⟨"SpadeRings$Script", "isWord", "(Ljava/lang/String;II)Z"⟩, 6) := ⟨⟨by decide +kernel, by decide +kernel⟩, List.mem_of_getElem? (i := 28) (by decide +kernel), List.mem_of_getElem? (i := 416) (by decide +kernel), List.mem_of_getElem? (i := 417) (by decide +kernel)⟩
theorem lw_p7 : lw_okq (⟨"SpadeRings$Script", "readItem", "(LSpadeRings$Gang;)V"⟩, 6) := ⟨⟨by decide +kernel, by decide +kernel⟩, List.mem_of_getElem? (i := 28) (by decide +kernel), List.mem_of_getElem? (i := 476) (by decide +kernel), List.mem_of_getElem? (i := 477) (by decide +kernel)⟩
theorem lw_p8 : lw_okq (⟨"SpadeRings$Script", "readDigger", "(LSpadeRings$Gang;)V"⟩, 6) := ⟨⟨by decide +kernel, by decide +kernel⟩, List.mem_of_getElem? (i := 28) (by decide +kernel), List.mem_of_getElem? (i := 480) (by decide +kernel), List.mem_of_getElem? (i := 481) (by decide +kernel)⟩
theorem lw_p9 : lw_okq (⟨"SpadeRings$Script", "takeWord", "(Z)V"⟩, 6) := ⟨⟨by decide +kernel, by decide +kernel⟩, List.mem_of_getElem? (i := 28) (by decide +kernel), List.mem_of_getElem? (i := 484) (by decide +kernel), List.mem_of_getElem? (i := 485) (by decide +kernel)⟩
theorem lw_p10 : lw_okq (⟨"SpadeRings$Script", "takeNumber", "(I)I"⟩, 6) := ⟨⟨by decide +kernel, by decide +kernel⟩, List.mem_of_getElem? (i := 28) (by decide +kernel), List.mem_of_getElem? (i := 488) (by decide +kernel), List.mem_of_getElem? (i := 489) (by decide +kernel)⟩
theorem lw_p11 : lw_okq (⟨"SpadeRings$Script", "takes", "(I)Z"⟩, 6) := ⟨⟨by decide +kernel, by decide +kernel⟩, List.mem_of_getElem? (i := 28) (by decide +kernel), List.mem_of_getElem? (i := 493) (by decide +kernel), List.mem_of_getElem? (i := 494) (by decide +kernel)⟩
theorem lw_p12 : lw_okq (⟨"SpadeRings$Script", "takeSemicolon", "()V"⟩, 6) := ⟨⟨by decide +kernel, by decide +kernel⟩, List.mem_of_getElem? (i := 28) (by decide +kernel), List.mem_of_getElem? (i := 497) (by decide +kernel), List.mem_of_getElem? (i := 498) (by decide +kernel)⟩
theorem lw_p13 : lw_okq (⟨"SpadeRings$Script", "readSpade", "(LSpadeRings$Gang;)V"⟩, 6) := ⟨⟨by decide +kernel, by decide +kernel⟩, List.mem_of_getElem? (i := 28) (by decide +kernel), List.mem_of_getElem? (i := 509) (by decide +kernel), List.mem_of_getElem? (i := 510) (by decide +kernel)⟩
theorem lw_p14 : lw_okq (⟨"SpadeRings$Script", "readYard", "(LSpadeRings$Gang;)V"⟩, 6) := ⟨⟨by decide +kernel, by decide +kernel⟩, List.mem_of_getElem? (i := 28) (by decide +kernel), List.mem_of_getElem? (i := 517) (by decide +kernel), List.mem_of_getElem? (i := 518) (by decide +kernel)⟩
theorem lw_p15 : lw_okq (⟨"SpadeRings$Follow", "look", "(LSpadeRings$Gang;LSpadeRings$Now;)J"⟩, 5) := ⟨⟨by decide +kernel, by decide +kernel⟩, List.mem_of_getElem? (i := 158) (by decide +kernel), List.mem_of_getElem? (i := 645) (by decide +kernel), List.mem_of_getElem? (i := 646) (by decide +kernel)⟩
def lw_privs_1 : List (MethodName × Nat) := [(⟨"SpadeRings$Script", "cutIntoTokens", "()V"⟩, 6), (⟨"SpadeRings$Script", "behindBlanks", "(I)I"⟩, 6), (⟨"SpadeRings$Script", "endOfToken", "(I)I"⟩, 6), (⟨"SpadeRings$Script", "tokenOf", "(II)I"⟩, 6), (⟨"SpadeRings$Script", "numberOf", "(II)I"⟩, 6), (⟨"SpadeRings$Script", "wordOf", "(II)I"⟩, 6), (⟨"SpadeRings$Script", "isWord", "(Ljava/lang/String;II)Z"⟩, 6), (⟨"SpadeRings$Script", "readItem", "(LSpadeRings$Gang;)V"⟩, 6), (⟨"SpadeRings$Script", "readDigger", "(LSpadeRings$Gang;)V"⟩, 6), (⟨"SpadeRings$Script", "takeWord", "(Z)V"⟩, 6), (⟨"SpadeRings$Script", "takeNumber", "(I)I"⟩, 6), (⟨"SpadeRings$Script", "takes", "(I)Z"⟩, 6), (⟨"SpadeRings$Script", "takeSemicolon", "()V"⟩, 6), (⟨"SpadeRings$Script", "readSpade", "(LSpadeRings$Gang;)V"⟩, 6), (⟨"SpadeRings$Script", "readYard", "(LSpadeRings$Gang;)V"⟩, 6), (⟨"SpadeRings$Follow", "look", "(LSpadeRings$Gang;LSpadeRings$Now;)J"⟩, 5)]
theorem lw_r1 : ∀ q ∈ lw_privs_1, lw_okq q := List.forall_mem_cons.mpr ⟨lw_p0, List.forall_mem_cons.mpr ⟨lw_p1, List.forall_mem_cons.mpr ⟨lw_p2, List.forall_mem_cons.mpr ⟨lw_p3, List.forall_mem_cons.mpr ⟨lw_p4, List.forall_mem_cons.mpr ⟨lw_p5, List.forall_mem_cons.mpr ⟨lw_p6, List.forall_mem_cons.mpr ⟨lw_p7, List.forall_mem_cons.mpr ⟨lw_p8, List.forall_mem_cons.mpr ⟨lw_p9, List.forall_mem_cons.mpr ⟨lw_p10, List.forall_mem_cons.mpr ⟨lw_p11, List.forall_mem_cons.mpr ⟨lw_p12, List.forall_mem_cons.mpr ⟨lw_p13, List.forall_mem_cons.mpr ⟨lw_p14, List.forall_mem_cons.mpr ⟨lw_p15, fun _ h => absurd h List.not_mem_nil⟩⟩⟩⟩⟩⟩⟩⟩⟩⟩⟩⟩⟩⟩⟩⟩
theorem lw_p16 : lw_okq (⟨"SpadeRings$Follow", "findRounds", "()I"⟩, 5) := ⟨⟨by decide +kernel, by decide +kernel⟩, List.mem_of_getElem? (i := 158) (by decide +kernel), List.mem_of_getElem? (i := 652) (by decide +kernel), List.mem_of_getElem? (i := 653) (by decide +kernel)⟩
theorem lw_p17 : lw_okq (⟨"SpadeRings$Follow", "fits", "(III)Z"⟩, 5) := ⟨⟨by decide +kernel, by decide +kernel⟩, List.mem_of_getElem? (i := 158) (by decide +kernel), List.mem_of_getElem? (i := 656) (by decide +kernel), List.mem_of_getElem? (i := 657) (by decide +kernel)⟩
theorem lw_p18 : lw_okq (⟨"SpadeRings$Follow", "bearable", "(III)I"⟩, 5) := ⟨⟨by decide +kernel, by decide +kernel⟩, List.mem_of_getElem? (i := 158) (by decide +kernel), List.mem_of_getElem? (i := 666) (by decide +kernel), List.mem_of_getElem? (i := 667) (by decide +kernel)⟩
theorem lw_p19 : lw_okq (⟨"SpadeRings$Follow", "place", "(II)Z"⟩, 5) := ⟨⟨by decide +kernel, by decide +kernel⟩, List.mem_of_getElem? (i := 158) (by decide +kernel), List.mem_of_getElem? (i := 670) (by decide +kernel), List.mem_of_getElem? (i := 671) (by decide +kernel)⟩
theorem lw_p20 : lw_okq (⟨"SpadeRings$Follow", "placeWith", "(III)Z"⟩, 5) := ⟨⟨by decide +kernel, by decide +kernel⟩, List.mem_of_getElem? (i := 158) (by decide +kernel), List.mem_of_getElem? (i := 675) (by decide +kernel), List.mem_of_getElem? (i := 676) (by decide +kernel)⟩
theorem lw_p21 : lw_okq (⟨"SpadeRings$Harvest", "look", "(LSpadeRings$Gang;LSpadeRings$Now;)V"⟩, 8) := ⟨⟨by decide +kernel, by decide +kernel⟩, List.mem_of_getElem? (i := 183) (by decide +kernel), List.mem_of_getElem? (i := 693) (by decide +kernel), List.mem_of_getElem? (i := 694) (by decide +kernel)⟩
theorem lw_p22 : lw_okq (⟨"SpadeRings$Harvest", "findChains", "(LSpadeRings$Gang;)V"⟩, 8) := ⟨⟨by decide +kernel, by decide +kernel⟩, List.mem_of_getElem? (i := 183) (by decide +kernel), List.mem_of_getElem? (i := 700) (by decide +kernel), List.mem_of_getElem? (i := 701) (by decide +kernel)⟩
theorem lw_p23 : lw_okq (⟨"SpadeRings$Harvest", "lengthenBy", "(LSpadeRings$Gang;I)Z"⟩, 8) := ⟨⟨by decide +kernel, by decide +kernel⟩, List.mem_of_getElem? (i := 183) (by decide +kernel), List.mem_of_getElem? (i := 708) (by decide +kernel), List.mem_of_getElem? (i := 709) (by decide +kernel)⟩
theorem lw_p24 : lw_okq (⟨"SpadeRings$Harvest", "lengthenToDigger", "(III)Z"⟩, 8) := ⟨⟨by decide +kernel, by decide +kernel⟩, List.mem_of_getElem? (i := 183) (by decide +kernel), List.mem_of_getElem? (i := 714) (by decide +kernel), List.mem_of_getElem? (i := 715) (by decide +kernel)⟩
theorem lw_p25 : lw_okq (⟨"SpadeRings$Harvest", "lengthenToSpade", "(III)Z"⟩, 8) := ⟨⟨by decide +kernel, by decide +kernel⟩, List.mem_of_getElem? (i := 183) (by decide +kernel), List.mem_of_getElem? (i := 718) (by decide +kernel), List.mem_of_getElem? (i := 719) (by decide +kernel)⟩
theorem lw_p26 : lw_okq (⟨"SpadeRings$Harvest", "bestLastSpade", "()I"⟩, 8) := ⟨⟨by decide +kernel, by decide +kernel⟩, List.mem_of_getElem? (i := 183) (by decide +kernel), List.mem_of_getElem? (i := 722) (by decide +kernel), List.mem_of_getElem? (i := 723) (by decide +kernel)⟩
theorem lw_p27 : lw_okq (⟨"SpadeRings$Harvest", "follow", "(I)V"⟩, 8) := ⟨⟨by decide +kernel, by decide +kernel⟩, List.mem_of_getElem? (i := 183) (by decide +kernel), List.mem_of_getElem? (i := 726) (by decide +kernel), List.mem_of_getElem? (i := 727) (by decide +kernel)⟩
theorem lw_p28 : lw_okq (⟨"SpadeRings$Parting", "offer", "(III)V"⟩, 5) := ⟨⟨by decide +kernel, by decide +kernel⟩, List.mem_of_getElem? (i := 214) (by decide +kernel), List.mem_of_getElem? (i := 745) (by decide +kernel), List.mem_of_getElem? (i := 746) (by decide +kernel)⟩
theorem lw_p29 : lw_okq (⟨"SpadeRings$Parting", "partRest", "(II)V"⟩, 5) := ⟨⟨by decide +kernel, by decide +kernel⟩, List.mem_of_getElem? (i := 214) (by decide +kernel), List.mem_of_getElem? (i := 749) (by decide +kernel), List.mem_of_getElem? (i := 750) (by decide +kernel)⟩
theorem lw_p30 : lw_okq (⟨"SpadeRings$Meeting", "firstBeatWith", "(I)I"⟩, 7) := ⟨⟨by decide +kernel, by decide +kernel⟩, List.mem_of_getElem? (i := 237) (by decide +kernel), List.mem_of_getElem? (i := 773) (by decide +kernel), List.mem_of_getElem? (i := 774) (by decide +kernel)⟩
theorem lw_p31 : lw_okq (⟨"SpadeRings$Meeting", "dugBy", "(I)I"⟩, 7) := ⟨⟨by decide +kernel, by decide +kernel⟩, List.mem_of_getElem? (i := 237) (by decide +kernel), List.mem_of_getElem? (i := 778) (by decide +kernel), List.mem_of_getElem? (i := 779) (by decide +kernel)⟩
def lw_privs_2 : List (MethodName × Nat) := [(⟨"SpadeRings$Follow", "findRounds", "()I"⟩, 5), (⟨"SpadeRings$Follow", "fits", "(III)Z"⟩, 5), (⟨"SpadeRings$Follow", "bearable", "(III)I"⟩, 5), (⟨"SpadeRings$Follow", "place", "(II)Z"⟩, 5), (⟨"SpadeRings$Follow", "placeWith", "(III)Z"⟩, 5), (⟨"SpadeRings$Harvest", "look", "(LSpadeRings$Gang;LSpadeRings$Now;)V"⟩, 8), (⟨"SpadeRings$Harvest", "findChains", "(LSpadeRings$Gang;)V"⟩, 8), (⟨"SpadeRings$Harvest", "lengthenBy", "(LSpadeRings$Gang;I)Z"⟩, 8), (⟨"SpadeRings$Harvest", "lengthenToDigger", "(III)Z"⟩, 8), (⟨"SpadeRings$Harvest", "lengthenToSpade", "(III)Z"⟩, 8), (⟨"SpadeRings$Harvest", "bestLastSpade", "()I"⟩, 8), (⟨"SpadeRings$Harvest", "follow", "(I)V"⟩, 8), (⟨"SpadeRings$Parting", "offer", "(III)V"⟩, 5), (⟨"SpadeRings$Parting", "partRest", "(II)V"⟩, 5), (⟨"SpadeRings$Meeting", "firstBeatWith", "(I)I"⟩, 7), (⟨"SpadeRings$Meeting", "dugBy", "(I)I"⟩, 7)]
theorem lw_r2 : ∀ q ∈ lw_privs_2, lw_okq q := List.forall_mem_cons.mpr ⟨lw_p16, List.forall_mem_cons.mpr ⟨lw_p17, List.forall_mem_cons.mpr ⟨lw_p18, List.forall_mem_cons.mpr ⟨lw_p19, List.forall_mem_cons.mpr ⟨lw_p20, List.forall_mem_cons.mpr ⟨lw_p21, List.forall_mem_cons.mpr ⟨lw_p22, List.forall_mem_cons.mpr ⟨lw_p23, List.forall_mem_cons.mpr ⟨lw_p24, List.forall_mem_cons.mpr ⟨lw_p25, List.forall_mem_cons.mpr ⟨lw_p26, List.forall_mem_cons.mpr ⟨lw_p27, List.forall_mem_cons.mpr ⟨lw_p28, List.forall_mem_cons.mpr ⟨lw_p29, List.forall_mem_cons.mpr ⟨lw_p30, List.forall_mem_cons.mpr ⟨lw_p31, fun _ h => absurd h List.not_mem_nil⟩⟩⟩⟩⟩⟩⟩⟩⟩⟩⟩⟩⟩⟩⟩⟩
theorem lw_p32 : lw_okq (⟨"SpadeRings$Holes", "neededWithin", "(II)I"⟩, 4) := ⟨⟨by decide +kernel, by decide +kernel⟩, List.mem_of_getElem? (i := 268) (by decide +kernel), List.mem_of_getElem? (i := 817) (by decide +kernel), List.mem_of_getElem? (i := 818) (by decide +kernel)⟩
theorem lw_p33 : lw_okq (⟨"SpadeRings$Told", "pairOf", "(I)J"⟩, 4) := ⟨⟨by decide +kernel, by decide +kernel⟩, List.mem_of_getElem? (i := 288) (by decide +kernel), List.mem_of_getElem? (i := 849) (by decide +kernel), List.mem_of_getElem? (i := 850) (by decide +kernel)⟩
theorem lw_p34 : lw_okq (⟨"SpadeRings$Told", "isFalse", "(I)Z"⟩, 4) := ⟨⟨by decide +kernel, by decide +kernel⟩, List.mem_of_getElem? (i := 288) (by decide +kernel), List.mem_of_getElem? (i := 858) (by decide +kernel), List.mem_of_getElem? (i := 859) (by decide +kernel)⟩
theorem lw_p35 : lw_okq (⟨"SpadeRings", "markAsPerson", "(I)I"⟩, 13) := ⟨⟨by decide +kernel, by decide +kernel⟩, List.mem_of_getElem? (i := 20) (by decide +kernel), List.mem_of_getElem? (i := 874) (by decide +kernel), List.mem_of_getElem? (i := 875) (by decide +kernel)⟩
theorem lw_p36 : lw_okq (⟨"SpadeRings", "markAsDigger", "(I)I"⟩, 13) := ⟨⟨by decide +kernel, by decide +kernel⟩, List.mem_of_getElem? (i := 20) (by decide +kernel), List.mem_of_getElem? (i := 878) (by decide +kernel), List.mem_of_getElem? (i := 879) (by decide +kernel)⟩
theorem lw_p37 : lw_okq (⟨"SpadeRings", "markAsSinger", "(I)I"⟩, 13) := ⟨⟨by decide +kernel, by decide +kernel⟩, List.mem_of_getElem? (i := 20) (by decide +kernel), List.mem_of_getElem? (i := 884) (by decide +kernel), List.mem_of_getElem? (i := 885) (by decide +kernel)⟩
theorem lw_p38 : lw_okq (⟨"SpadeRings", "markAsLeft", "(I)I"⟩, 13) := ⟨⟨by decide +kernel, by decide +kernel⟩, List.mem_of_getElem? (i := 20) (by decide +kernel), List.mem_of_getElem? (i := 889) (by decide +kernel), List.mem_of_getElem? (i := 890) (by decide +kernel)⟩
theorem lw_p39 : lw_okq (⟨"SpadeRings", "markAsProphet", "(I)I"⟩, 13) := ⟨⟨by decide +kernel, by decide +kernel⟩, List.mem_of_getElem? (i := 20) (by decide +kernel), List.mem_of_getElem? (i := 894) (by decide +kernel), List.mem_of_getElem? (i := 895) (by decide +kernel)⟩
theorem lw_p40 : lw_okq (⟨"SpadeRings", "markAsSlow", "(I)I"⟩, 13) := ⟨⟨by decide +kernel, by decide +kernel⟩, List.mem_of_getElem? (i := 20) (by decide +kernel), List.mem_of_getElem? (i := 899) (by decide +kernel), List.mem_of_getElem? (i := 900) (by decide +kernel)⟩
theorem lw_p41 : lw_okq (⟨"SpadeRings", "imageAt", "(I)LSpadeRings$Now;"⟩, 13) := ⟨⟨by decide +kernel, by decide +kernel⟩, List.mem_of_getElem? (i := 20) (by decide +kernel), List.mem_of_getElem? (i := 908) (by decide +kernel), List.mem_of_getElem? (i := 909) (by decide +kernel)⟩
theorem lw_p42 : lw_okq (⟨"SpadeRingsModel", "next", "()V"⟩, 42) := ⟨⟨by decide +kernel, by decide +kernel⟩, List.mem_of_getElem? (i := 931) (by decide +kernel), List.mem_of_getElem? (i := 1081) (by decide +kernel), List.mem_of_getElem? (i := 1082) (by decide +kernel)⟩
theorem lw_p43 : lw_okq (⟨"SpadeRingsModel", "here", "()I"⟩, 42) := ⟨⟨by decide +kernel, by decide +kernel⟩, List.mem_of_getElem? (i := 931) (by decide +kernel), List.mem_of_getElem? (i := 1085) (by decide +kernel), List.mem_of_getElem? (i := 1086) (by decide +kernel)⟩
theorem lw_p44 : lw_okq (⟨"SpadeRingsModel", "readItem", "()V"⟩, 42) := ⟨⟨by decide +kernel, by decide +kernel⟩, List.mem_of_getElem? (i := 931) (by decide +kernel), List.mem_of_getElem? (i := 1092) (by decide +kernel), List.mem_of_getElem? (i := 1093) (by decide +kernel)⟩
theorem lw_p45 : lw_okq (⟨"SpadeRingsModel", "due", "(Z)I"⟩, 42) := ⟨⟨by decide +kernel, by decide +kernel⟩, List.mem_of_getElem? (i := 931) (by decide +kernel), List.mem_of_getElem? (i := 1096) (by decide +kernel), List.mem_of_getElem? (i := 1097) (by decide +kernel)⟩
theorem lw_p46 : lw_okq (⟨"SpadeRingsModel", "number", "(II)I"⟩, 42) := ⟨⟨by decide +kernel, by decide +kernel⟩, List.mem_of_getElem? (i := 931) (by decide +kernel), List.mem_of_getElem? (i := 1100) (by decide +kernel), List.mem_of_getElem? (i := 1101) (by decide +kernel)⟩
theorem lw_p47 : lw_okq (⟨"SpadeRingsModel", "side", "(Z)I"⟩, 42) := ⟨⟨by decide +kernel, by decide +kernel⟩, List.mem_of_getElem? (i := 931) (by decide +kernel), List.mem_of_getElem? (i := 1104) (by decide +kernel), List.mem_of_getElem? (i := 1105) (by decide +kernel)⟩
def lw_privs_3 : List (MethodName × Nat) := [(⟨"SpadeRings$Holes", "neededWithin", "(II)I"⟩, 4), (⟨"SpadeRings$Told", "pairOf", "(I)J"⟩, 4), (⟨"SpadeRings$Told", "isFalse", "(I)Z"⟩, 4), (⟨"SpadeRings", "markAsPerson", "(I)I"⟩, 13), (⟨"SpadeRings", "markAsDigger", "(I)I"⟩, 13), (⟨"SpadeRings", "markAsSinger", "(I)I"⟩, 13), (⟨"SpadeRings", "markAsLeft", "(I)I"⟩, 13), (⟨"SpadeRings", "markAsProphet", "(I)I"⟩, 13), (⟨"SpadeRings", "markAsSlow", "(I)I"⟩, 13), (⟨"SpadeRings", "imageAt", "(I)LSpadeRings$Now;"⟩, 13), (⟨"SpadeRingsModel", "next", "()V"⟩, 42), (⟨"SpadeRingsModel", "here", "()I"⟩, 42), (⟨"SpadeRingsModel", "readItem", "()V"⟩, 42), (⟨"SpadeRingsModel", "due", "(Z)I"⟩, 42), (⟨"SpadeRingsModel", "number", "(II)I"⟩, 42), (⟨"SpadeRingsModel", "side", "(Z)I"⟩, 42)]
theorem lw_r3 : ∀ q ∈ lw_privs_3, lw_okq q := List.forall_mem_cons.mpr ⟨lw_p32, List.forall_mem_cons.mpr ⟨lw_p33, List.forall_mem_cons.mpr ⟨lw_p34, List.forall_mem_cons.mpr ⟨lw_p35, List.forall_mem_cons.mpr ⟨lw_p36, List.forall_mem_cons.mpr ⟨lw_p37, List.forall_mem_cons.mpr ⟨lw_p38, List.forall_mem_cons.mpr ⟨lw_p39, List.forall_mem_cons.mpr ⟨lw_p40, List.forall_mem_cons.mpr ⟨lw_p41, List.forall_mem_cons.mpr ⟨lw_p42, List.forall_mem_cons.mpr ⟨lw_p43, List.forall_mem_cons.mpr ⟨lw_p44, List.forall_mem_cons.mpr ⟨lw_p45, List.forall_mem_cons.mpr ⟨lw_p46, List.forall_mem_cons.mpr ⟨lw_p47, fun _ h => absurd h List.not_mem_nil⟩⟩⟩⟩⟩⟩⟩⟩⟩⟩⟩⟩⟩⟩⟩⟩
theorem lw_p48 : lw_okq (⟨"SpadeRingsModel", "isDigger", "(I)Z"⟩, 42) := ⟨⟨by decide +kernel, by decide +kernel⟩, List.mem_of_getElem? (i := 931) (by decide +kernel), List.mem_of_getElem? (i := 1116) (by decide +kernel), List.mem_of_getElem? (i := 1117) (by decide +kernel)⟩
theorem lw_p49 : lw_okq (⟨"SpadeRingsModel", "isSpade", "(I)Z"⟩, 42) := ⟨⟨by decide +kernel, by decide +kernel⟩, List.mem_of_getElem? (i := 931) (by decide +kernel), List.mem_of_getElem? (i := 1124) (by decide +kernel), List.mem_of_getElem? (i := 1125) (by decide +kernel)⟩
theorem lw_p50 : lw_okq (⟨"SpadeRingsModel", "mayNow", "(II)Z"⟩, 42) := ⟨⟨by decide +kernel, by decide +kernel⟩, List.mem_of_getElem? (i := 931) (by decide +kernel), List.mem_of_getElem? (i := 1136) (by decide +kernel), List.mem_of_getElem? (i := 1137) (by decide +kernel)⟩
theorem lw_p51 : lw_okq (⟨"SpadeRingsModel", "yardNow", "()I"⟩, 42) := ⟨⟨by decide +kernel, by decide +kernel⟩, List.mem_of_getElem? (i := 931) (by decide +kernel), List.mem_of_getElem? (i := 1144) (by decide +kernel), List.mem_of_getElem? (i := 1145) (by decide +kernel)⟩
theorem lw_p52 : lw_okq (⟨"SpadeRingsModel", "findEdges", "()V"⟩, 42) := ⟨⟨by decide +kernel, by decide +kernel⟩, List.mem_of_getElem? (i := 931) (by decide +kernel), List.mem_of_getElem? (i := 1165) (by decide +kernel), List.mem_of_getElem? (i := 1166) (by decide +kernel)⟩
theorem lw_p53 : lw_okq (⟨"SpadeRingsModel", "longestBy", "()I"⟩, 42) := ⟨⟨by decide +kernel, by decide +kernel⟩, List.mem_of_getElem? (i := 931) (by decide +kernel), List.mem_of_getElem? (i := 1169) (by decide +kernel), List.mem_of_getElem? (i := 1170) (by decide +kernel)⟩
theorem lw_p54 : lw_okq (⟨"SpadeRingsModel", "isLong", "(I)Z"⟩, 42) := ⟨⟨by decide +kernel, by decide +kernel⟩, List.mem_of_getElem? (i := 931) (by decide +kernel), List.mem_of_getElem? (i := 1173) (by decide +kernel), List.mem_of_getElem? (i := 1174) (by decide +kernel)⟩
theorem lw_p55 : lw_okq (⟨"SpadeRingsModel", "begin", "()V"⟩, 42) := ⟨⟨by decide +kernel, by decide +kernel⟩, List.mem_of_getElem? (i := 931) (by decide +kernel), List.mem_of_getElem? (i := 1177) (by decide +kernel), List.mem_of_getElem? (i := 1178) (by decide +kernel)⟩
theorem lw_p56 : lw_okq (⟨"SpadeRingsModel", "augment", "(IZ)I"⟩, 42) := ⟨⟨by decide +kernel, by decide +kernel⟩, List.mem_of_getElem? (i := 931) (by decide +kernel), List.mem_of_getElem? (i := 1181) (by decide +kernel), List.mem_of_getElem? (i := 1182) (by decide +kernel)⟩
theorem lw_p57 : lw_okq (⟨"SpadeRingsModel", "findWays", "(IZ)V"⟩, 42) := ⟨⟨by decide +kernel, by decide +kernel⟩, List.mem_of_getElem? (i := 931) (by decide +kernel), List.mem_of_getElem? (i := 1185) (by decide +kernel), List.mem_of_getElem? (i := 1186) (by decide +kernel)⟩
theorem lw_p58 : lw_okq (⟨"SpadeRingsModel", "weight", "(IZ)I"⟩, 42) := ⟨⟨by decide +kernel, by decide +kernel⟩, List.mem_of_getElem? (i := 931) (by decide +kernel), List.mem_of_getElem? (i := 1190) (by decide +kernel), List.mem_of_getElem? (i := 1191) (by decide +kernel)⟩
theorem lw_p59 : lw_okq (⟨"SpadeRingsModel", "isUsed", "(I)Z"⟩, 42) := ⟨⟨by decide +kernel, by decide +kernel⟩, List.mem_of_getElem? (i := 931) (by decide +kernel), List.mem_of_getElem? (i := 1198) (by decide +kernel), List.mem_of_getElem? (i := 1199) (by decide +kernel)⟩
theorem lw_p60 : lw_okq (⟨"SpadeRingsModel", "leaves", "(I)Z"⟩, 42) := ⟨⟨by decide +kernel, by decide +kernel⟩, List.mem_of_getElem? (i := 931) (by decide +kernel), List.mem_of_getElem? (i := 1202) (by decide +kernel), List.mem_of_getElem? (i := 1203) (by decide +kernel)⟩
theorem lw_p61 : lw_okq (⟨"SpadeRingsModel", "part", "(II)Z"⟩, 42) := ⟨⟨by decide +kernel, by decide +kernel⟩, List.mem_of_getElem? (i := 931) (by decide +kernel), List.mem_of_getElem? (i := 1214) (by decide +kernel), List.mem_of_getElem? (i := 1215) (by decide +kernel)⟩
theorem lw_p62 : lw_okq (⟨"SpadeRingsModel", "dugBy", "(II)I"⟩, 42) := ⟨⟨by decide +kernel, by decide +kernel⟩, List.mem_of_getElem? (i := 931) (by decide +kernel), List.mem_of_getElem? (i := 1218) (by decide +kernel), List.mem_of_getElem? (i := 1219) (by decide +kernel)⟩
theorem lw_p63 : lw_okq (⟨"SpadeRingsModel", "isAhead", "()Z"⟩, 42) := ⟨⟨by decide +kernel, by decide +kernel⟩, List.mem_of_getElem? (i := 931) (by decide +kernel), List.mem_of_getElem? (i := 1222) (by decide +kernel), List.mem_of_getElem? (i := 1223) (by decide +kernel)⟩
def lw_privs_4 : List (MethodName × Nat) := [(⟨"SpadeRingsModel", "isDigger", "(I)Z"⟩, 42), (⟨"SpadeRingsModel", "isSpade", "(I)Z"⟩, 42), (⟨"SpadeRingsModel", "mayNow", "(II)Z"⟩, 42), (⟨"SpadeRingsModel", "yardNow", "()I"⟩, 42), (⟨"SpadeRingsModel", "findEdges", "()V"⟩, 42), (⟨"SpadeRingsModel", "longestBy", "()I"⟩, 42), (⟨"SpadeRingsModel", "isLong", "(I)Z"⟩, 42), (⟨"SpadeRingsModel", "begin", "()V"⟩, 42), (⟨"SpadeRingsModel", "augment", "(IZ)I"⟩, 42), (⟨"SpadeRingsModel", "findWays", "(IZ)V"⟩, 42), (⟨"SpadeRingsModel", "weight", "(IZ)I"⟩, 42), (⟨"SpadeRingsModel", "isUsed", "(I)Z"⟩, 42), (⟨"SpadeRingsModel", "leaves", "(I)Z"⟩, 42), (⟨"SpadeRingsModel", "part", "(II)Z"⟩, 42), (⟨"SpadeRingsModel", "dugBy", "(II)I"⟩, 42), (⟨"SpadeRingsModel", "isAhead", "()Z"⟩, 42)]
theorem lw_r4 : ∀ q ∈ lw_privs_4, lw_okq q := List.forall_mem_cons.mpr ⟨lw_p48, List.forall_mem_cons.mpr ⟨lw_p49, List.forall_mem_cons.mpr ⟨lw_p50, List.forall_mem_cons.mpr ⟨lw_p51, List.forall_mem_cons.mpr ⟨lw_p52, List.forall_mem_cons.mpr ⟨lw_p53, List.forall_mem_cons.mpr ⟨lw_p54, List.forall_mem_cons.mpr ⟨lw_p55, List.forall_mem_cons.mpr ⟨lw_p56, List.forall_mem_cons.mpr ⟨lw_p57, List.forall_mem_cons.mpr ⟨lw_p58, List.forall_mem_cons.mpr ⟨lw_p59, List.forall_mem_cons.mpr ⟨lw_p60, List.forall_mem_cons.mpr ⟨lw_p61, List.forall_mem_cons.mpr ⟨lw_p62, List.forall_mem_cons.mpr ⟨lw_p63, fun _ h => absurd h List.not_mem_nil⟩⟩⟩⟩⟩⟩⟩⟩⟩⟩⟩⟩⟩⟩⟩⟩
theorem lw_p64 : lw_okq (⟨"SpadeRingsModel", "allLeft", "()I"⟩, 42) := ⟨⟨by decide +kernel, by decide +kernel⟩, List.mem_of_getElem? (i := 931) (by decide +kernel), List.mem_of_getElem? (i := 1230) (by decide +kernel), List.mem_of_getElem? (i := 1231) (by decide +kernel)⟩
theorem lw_p65 : lw_okq (⟨"SpadeRingsModel", "stroke", "(II)I"⟩, 42) := ⟨⟨by decide +kernel, by decide +kernel⟩, List.mem_of_getElem? (i := 931) (by decide +kernel), List.mem_of_getElem? (i := 1234) (by decide +kernel), List.mem_of_getElem? (i := 1235) (by decide +kernel)⟩
theorem lw_p66 : lw_okq (⟨"SpadeRingsModel", "isClosed", "(I)Z"⟩, 42) := ⟨⟨by decide +kernel, by decide +kernel⟩, List.mem_of_getElem? (i := 931) (by decide +kernel), List.mem_of_getElem? (i := 1250) (by decide +kernel), List.mem_of_getElem? (i := 1251) (by decide +kernel)⟩
theorem lw_p67 : lw_okq (⟨"SpadeRingsModel", "nextHole", "(I)I"⟩, 42) := ⟨⟨by decide +kernel, by decide +kernel⟩, List.mem_of_getElem? (i := 931) (by decide +kernel), List.mem_of_getElem? (i := 1254) (by decide +kernel), List.mem_of_getElem? (i := 1255) (by decide +kernel)⟩
theorem lw_p68 : lw_okq (⟨"SpadeRingsModel", "isFalse", "(I)Z"⟩, 42) := ⟨⟨by decide +kernel, by decide +kernel⟩, List.mem_of_getElem? (i := 931) (by decide +kernel), List.mem_of_getElem? (i := 1274) (by decide +kernel), List.mem_of_getElem? (i := 1275) (by decide +kernel)⟩
theorem lw_p69 : lw_okq (⟨"SpadeRingsModel", "copy", "(II)V"⟩, 42) := ⟨⟨by decide +kernel, by decide +kernel⟩, List.mem_of_getElem? (i := 931) (by decide +kernel), List.mem_of_getElem? (i := 1294) (by decide +kernel), List.mem_of_getElem? (i := 1295) (by decide +kernel)⟩
def lw_privs_5 : List (MethodName × Nat) := [(⟨"SpadeRingsModel", "allLeft", "()I"⟩, 42), (⟨"SpadeRingsModel", "stroke", "(II)I"⟩, 42), (⟨"SpadeRingsModel", "isClosed", "(I)Z"⟩, 42), (⟨"SpadeRingsModel", "nextHole", "(I)I"⟩, 42), (⟨"SpadeRingsModel", "isFalse", "(I)Z"⟩, 42), (⟨"SpadeRingsModel", "copy", "(II)V"⟩, 42)]
theorem lw_r5 : ∀ q ∈ lw_privs_5, lw_okq q := List.forall_mem_cons.mpr ⟨lw_p64, List.forall_mem_cons.mpr ⟨lw_p65, List.forall_mem_cons.mpr ⟨lw_p66, List.forall_mem_cons.mpr ⟨lw_p67, List.forall_mem_cons.mpr ⟨lw_p68, List.forall_mem_cons.mpr ⟨lw_p69, fun _ h => absurd h List.not_mem_nil⟩⟩⟩⟩⟩⟩
def lw_privs : List (MethodName × Nat) := lw_privs_1 ++ (lw_privs_2 ++ (lw_privs_3 ++ (lw_privs_4 ++ (lw_privs_5))))
def lw_tbl : List Cond := k2_sels lw_privs ++ tables_1
theorem lw_privs_ok : ∀ q ∈ lw_privs, lw_okq q := by
  show ∀ q ∈ lw_privs_1 ++ (lw_privs_2 ++ (lw_privs_3 ++ (lw_privs_4 ++ (lw_privs_5)))), lw_okq q
  exact List.forall_mem_append.mpr ⟨lw_r1, List.forall_mem_append.mpr ⟨lw_r2, List.forall_mem_append.mpr ⟨lw_r3, List.forall_mem_append.mpr ⟨lw_r4, lw_r5⟩⟩⟩⟩
end
section
/-! names of classes, fields, methods (out of the printed NAMES) -/
def RX0 : String := "SpadeRings$Follow"
def TX0 : u_T := fun k => match k with
  | 0 => ("SpadeRings$Follow", "rounds", "I", false)
  | 1 => ("SpadeRings$Follow", "row", "[I", true)
  | 2 => ("SpadeRings$Follow", "diggers", "I", false)
  | 3 => ("SpadeRings$Follow", "known", "J", false)
  | _ => ("SpadeRings$Follow", "open", "[I", true)
def tyX0 : Nat → FieldType := fun k => match k with
  | 0 => .int
  | 1 => .array .int
  | 2 => .int
  | 3 => .long
  | _ => .array .int
abbrev wsX00 : List Cond := u_ws RX0 TX0 5
theorem nmX0 : ∀ a, a < 5 → ∀ b, b < 5 → a ≠ b → (TX0 a).2.1 ≠ (TX0 b).2.1 := by decide +kernel
theorem tyX0_ok : ∀ k, k < 5 → parseFieldDescriptor (TX0 k).2.2.1 = some (tyX0 k) := by decide +kernel
abbrev cX0_init : ByteArray := prog_2_method_1_code
def yX0_init : MethodName := ⟨RX0, "<init>", "()V"⟩
abbrev cX0_work : ByteArray := prog_2_method_2_code
def yX0_work : MethodName := ⟨RX0, "work", "(LSpadeRings$Gang;LSpadeRings$Now;)V"⟩
abbrev cX0_look : ByteArray := prog_2_method_3_code
def yX0_look : MethodName := ⟨RX0, "look", "(LSpadeRings$Gang;LSpadeRings$Now;)J"⟩
abbrev cX0_findRounds : ByteArray := prog_2_method_4_code
def yX0_findRounds : MethodName := ⟨RX0, "findRounds", "()I"⟩
abbrev cX0_fits : ByteArray := prog_2_method_5_code
def yX0_fits : MethodName := ⟨RX0, "fits", "(III)Z"⟩
abbrev cX0_bearable : ByteArray := prog_2_method_6_code
def yX0_bearable : MethodName := ⟨RX0, "bearable", "(III)I"⟩
abbrev cX0_place : ByteArray := prog_2_method_7_code
def yX0_place : MethodName := ⟨RX0, "place", "(II)Z"⟩
abbrev cX0_placeWith : ByteArray := prog_2_method_8_code
def yX0_placeWith : MethodName := ⟨RX0, "placeWith", "(III)Z"⟩
def RX1 : String := "SpadeRings$Gang"
def TX1 : u_T := fun k => match k with
  | 0 => ("SpadeRings$Gang", "diggers", "I", false)
  | 1 => ("SpadeRings$Gang", "spades", "I", false)
  | 2 => ("SpadeRings$Gang", "yards", "I", false)
  | 3 => ("SpadeRings$Gang", "strength", "[I", true)
  | 4 => ("SpadeRings$Gang", "pace", "[I", true)
  | 5 => ("SpadeRings$Gang", "hand", "[I", true)
  | 6 => ("SpadeRings$Gang", "sharp", "[I", true)
  | 7 => ("SpadeRings$Gang", "whom", "[I", true)
  | 8 => ("SpadeRings$Gang", "deep", "[I", true)
  | _ => ("SpadeRings$Gang", "soil", "[I", true)
def tyX1 : Nat → FieldType := fun k => match k with
  | 0 => .int
  | 1 => .int
  | 2 => .int
  | 3 => .array .int
  | 4 => .array .int
  | 5 => .array .int
  | 6 => .array .int
  | 7 => .array .int
  | 8 => .array .int
  | _ => .array .int
abbrev wsX10 : List Cond := u_ws RX1 TX1 10
theorem nmX1 : ∀ a, a < 10 → ∀ b, b < 10 → a ≠ b → (TX1 a).2.1 ≠ (TX1 b).2.1 := by decide +kernel
theorem tyX1_ok : ∀ k, k < 10 → parseFieldDescriptor (TX1 k).2.2.1 = some (tyX1 k) := by decide +kernel
abbrev cX1_init : ByteArray := prog_3_method_1_code
def yX1_init : MethodName := ⟨RX1, "<init>", "()V"⟩
abbrev cX1_empty : ByteArray := prog_3_method_2_code
def yX1_empty : MethodName := ⟨RX1, "empty", "()V"⟩
abbrev cX1_hasDigger : ByteArray := prog_3_method_3_code
def yX1_hasDigger : MethodName := ⟨RX1, "hasDigger", "(I)Z"⟩
abbrev cX1_hasSpade : ByteArray := prog_3_method_4_code
def yX1_hasSpade : MethodName := ⟨RX1, "hasSpade", "(I)Z"⟩
abbrev cX1_hasYard : ByteArray := prog_3_method_5_code
def yX1_hasYard : MethodName := ⟨RX1, "hasYard", "(I)Z"⟩
abbrev cX1_addDigger : ByteArray := prog_3_method_6_code
def yX1_addDigger : MethodName := ⟨RX1, "addDigger", "(IIZ)V"⟩
abbrev cX1_addSpade : ByteArray := prog_3_method_7_code
def yX1_addSpade : MethodName := ⟨RX1, "addSpade", "(II)V"⟩
abbrev cX1_addYard : ByteArray := prog_3_method_8_code
def yX1_addYard : MethodName := ⟨RX1, "addYard", "(II)V"⟩
abbrev cX1_suits : ByteArray := prog_3_method_9_code
def yX1_suits : MethodName := ⟨RX1, "suits", "(II)Z"⟩
abbrev cX1_product : ByteArray := prog_3_method_10_code
def yX1_product : MethodName := ⟨RX1, "product", "(II)I"⟩
abbrev cX1_clodsOf : ByteArray := prog_3_method_11_code
def yX1_clodsOf : MethodName := ⟨RX1, "clodsOf", "(I)I"⟩
abbrev cX1_allClods : ByteArray := prog_3_method_12_code
def yX1_allClods : MethodName := ⟨RX1, "allClods", "()I"⟩
abbrev cX1_yardOfClod : ByteArray := prog_3_method_13_code
def yX1_yardOfClod : MethodName := ⟨RX1, "yardOfClod", "(I)I"⟩
def RX2 : String := "SpadeRings$Harvest"
def TX2 : u_T := fun k => match k with
  | 0 => ("SpadeRings$Harvest", "rounds", "I", false)
  | 1 => ("SpadeRings$Harvest", "open", "[I", true)
  | 2 => ("SpadeRings$Harvest", "taken", "[I", true)
  | 3 => ("SpadeRings$Harvest", "load", "[I", true)
  | 4 => ("SpadeRings$Harvest", "gainOfDigger", "[I", true)
  | 5 => ("SpadeRings$Harvest", "gainOfSpade", "[I", true)
  | 6 => ("SpadeRings$Harvest", "fromSpade", "[I", true)
  | _ => ("SpadeRings$Harvest", "fromDigger", "[I", true)
def tyX2 : Nat → FieldType := fun k => match k with
  | 0 => .int
  | 1 => .array .int
  | 2 => .array .int
  | 3 => .array .int
  | 4 => .array .int
  | 5 => .array .int
  | 6 => .array .int
  | _ => .array .int
abbrev wsX20 : List Cond := u_ws RX2 TX2 8
theorem nmX2 : ∀ a, a < 8 → ∀ b, b < 8 → a ≠ b → (TX2 a).2.1 ≠ (TX2 b).2.1 := by decide +kernel
theorem tyX2_ok : ∀ k, k < 8 → parseFieldDescriptor (TX2 k).2.2.1 = some (tyX2 k) := by decide +kernel
abbrev cX2_init : ByteArray := prog_4_method_1_code
def yX2_init : MethodName := ⟨RX2, "<init>", "()V"⟩
abbrev cX2_greatest : ByteArray := prog_4_method_2_code
def yX2_greatest : MethodName := ⟨RX2, "greatest", "(LSpadeRings$Gang;LSpadeRings$Now;I)I"⟩
abbrev cX2_look : ByteArray := prog_4_method_3_code
def yX2_look : MethodName := ⟨RX2, "look", "(LSpadeRings$Gang;LSpadeRings$Now;)V"⟩
abbrev cX2_findChains : ByteArray := prog_4_method_4_code
def yX2_findChains : MethodName := ⟨RX2, "findChains", "(LSpadeRings$Gang;)V"⟩
abbrev cX2_lengthenBy : ByteArray := prog_4_method_5_code
def yX2_lengthenBy : MethodName := ⟨RX2, "lengthenBy", "(LSpadeRings$Gang;I)Z"⟩
abbrev cX2_lengthenToSpade : ByteArray := prog_4_method_6_code
def yX2_lengthenToSpade : MethodName := ⟨RX2, "lengthenToSpade", "(III)Z"⟩
abbrev cX2_lengthenToDigger : ByteArray := prog_4_method_7_code
def yX2_lengthenToDigger : MethodName := ⟨RX2, "lengthenToDigger", "(III)Z"⟩
abbrev cX2_bestLastSpade : ByteArray := prog_4_method_8_code
def yX2_bestLastSpade : MethodName := ⟨RX2, "bestLastSpade", "()I"⟩
abbrev cX2_follow : ByteArray := prog_4_method_9_code
def yX2_follow : MethodName := ⟨RX2, "follow", "(I)V"⟩
def RX3 : String := "SpadeRings$Holes"
def TX3 : u_T := fun k => match k with
  | 0 => ("SpadeRings$Holes", "amount", "I", false)
  | 1 => ("SpadeRings$Holes", "from", "[I", true)
  | 2 => ("SpadeRings$Holes", "clods", "[I", true)
  | _ => ("SpadeRings$Holes", "until", "[I", true)
def tyX3 : Nat → FieldType := fun k => match k with
  | 0 => .int
  | 1 => .array .int
  | 2 => .array .int
  | _ => .array .int
abbrev wsX30 : List Cond := u_ws RX3 TX3 4
theorem nmX3 : ∀ a, a < 4 → ∀ b, b < 4 → a ≠ b → (TX3 a).2.1 ≠ (TX3 b).2.1 := by decide +kernel
theorem tyX3_ok : ∀ k, k < 4 → parseFieldDescriptor (TX3 k).2.2.1 = some (tyX3 k) := by decide +kernel
abbrev cX3_init : ByteArray := prog_5_method_1_code
def yX3_init : MethodName := ⟨RX3, "<init>", "()V"⟩
abbrev cX3_add : ByteArray := prog_5_method_2_code
def yX3_add : MethodName := ⟨RX3, "add", "(III)Z"⟩
abbrev cX3_leastClods : ByteArray := prog_5_method_3_code
def yX3_leastClods : MethodName := ⟨RX3, "leastClods", "()I"⟩
abbrev cX3_neededWithin : ByteArray := prog_5_method_4_code
def yX3_neededWithin : MethodName := ⟨RX3, "neededWithin", "(II)I"⟩
def RX4 : String := "SpadeRings$Meeting"
def TX4 : u_T := fun k => match k with
  | 0 => ("SpadeRings$Meeting", "beat", "I", false)
  | 1 => ("SpadeRings$Meeting", "place", "I", false)
  | 2 => ("SpadeRings$Meeting", "dugByFirst", "I", false)
  | 3 => ("SpadeRings$Meeting", "a", "I", false)
  | 4 => ("SpadeRings$Meeting", "p", "I", false)
  | 5 => ("SpadeRings$Meeting", "b", "I", false)
  | _ => ("SpadeRings$Meeting", "q", "I", false)
def tyX4 : Nat → FieldType := fun k => match k with
  | 0 => .int
  | 1 => .int
  | 2 => .int
  | 3 => .int
  | 4 => .int
  | 5 => .int
  | _ => .int
abbrev wsX40 : List Cond := u_ws RX4 TX4 7
theorem nmX4 : ∀ a, a < 7 → ∀ b, b < 7 → a ≠ b → (TX4 a).2.1 ≠ (TX4 b).2.1 := by decide +kernel
theorem tyX4_ok : ∀ k, k < 7 → parseFieldDescriptor (TX4 k).2.2.1 = some (tyX4 k) := by decide +kernel
abbrev cX4_init : ByteArray := prog_6_method_1_code
def yX4_init : MethodName := ⟨RX4, "<init>", "()V"⟩
abbrev cX4_hold : ByteArray := prog_6_method_2_code
def yX4_hold : MethodName := ⟨RX4, "hold", "(LSpadeRings$Gang;IIII)V"⟩
abbrev cX4_firstBeatWith : ByteArray := prog_6_method_3_code
def yX4_firstBeatWith : MethodName := ⟨RX4, "firstBeatWith", "(I)I"⟩
abbrev cX4_dugBy : ByteArray := prog_6_method_4_code
def yX4_dugBy : MethodName := ⟨RX4, "dugBy", "(I)I"⟩
def RX5 : String := "SpadeRings$Now"
def TX5 : u_T := fun k => match k with
  | 0 => ("SpadeRings$Now", "round", "I", false)
  | 1 => ("SpadeRings$Now", "beats", "I", false)
  | 2 => ("SpadeRings$Now", "allEarth", "I", false)
  | 3 => ("SpadeRings$Now", "yardDug", "I", false)
  | 4 => ("SpadeRings$Now", "whoInRound", "I", false)
  | 5 => ("SpadeRings$Now", "spadesInRound", "I", false)
  | 6 => ("SpadeRings$Now", "broken", "I", false)
  | 7 => ("SpadeRings$Now", "threw", "[I", true)
  | _ => ("SpadeRings$Now", "out", "[I", true)
def tyX5 : Nat → FieldType := fun k => match k with
  | 0 => .int
  | 1 => .int
  | 2 => .int
  | 3 => .int
  | 4 => .int
  | 5 => .int
  | 6 => .int
  | 7 => .array .int
  | _ => .array .int
abbrev wsX50 : List Cond := u_ws RX5 TX5 9
theorem nmX5 : ∀ a, a < 9 → ∀ b, b < 9 → a ≠ b → (TX5 a).2.1 ≠ (TX5 b).2.1 := by decide +kernel
theorem tyX5_ok : ∀ k, k < 9 → parseFieldDescriptor (TX5 k).2.2.1 = some (tyX5 k) := by decide +kernel
abbrev cX5_init : ByteArray := prog_7_method_1_code
def yX5_init : MethodName := ⟨RX5, "<init>", "()V"⟩
abbrev cX5_reset : ByteArray := prog_7_method_2_code
def yX5_reset : MethodName := ⟨RX5, "reset", "()V"⟩
abbrev cX5_copyFrom : ByteArray := prog_7_method_3_code
def yX5_copyFrom : MethodName := ⟨RX5, "copyFrom", "(LSpadeRings$Now;)V"⟩
abbrev cX5_allows : ByteArray := prog_7_method_4_code
def yX5_allows : MethodName := ⟨RX5, "allows", "(LSpadeRings$Gang;II)Z"⟩
abbrev cX5_canThrow : ByteArray := prog_7_method_5_code
def yX5_canThrow : MethodName := ⟨RX5, "canThrow", "(LSpadeRings$Gang;II)Z"⟩
abbrev cX5_earthOf : ByteArray := prog_7_method_6_code
def yX5_earthOf : MethodName := ⟨RX5, "earthOf", "(LSpadeRings$Gang;II)I"⟩
abbrev cX5_noteThrow : ByteArray := prog_7_method_7_code
def yX5_noteThrow : MethodName := ⟨RX5, "noteThrow", "(II)V"⟩
abbrev cX5_dig : ByteArray := prog_7_method_8_code
def yX5_dig : MethodName := ⟨RX5, "dig", "(LSpadeRings$Gang;I)V"⟩
abbrev cX5_endRound : ByteArray := prog_7_method_9_code
def yX5_endRound : MethodName := ⟨RX5, "endRound", "(LSpadeRings$Gang;)I"⟩
def RX6 : String := "SpadeRings$Parting"
def TX6 : u_T := fun k => match k with
  | 0 => ("SpadeRings$Parting", "best", "I", false)
  | 1 => ("SpadeRings$Parting", "first", "I", false)
  | 2 => ("SpadeRings$Parting", "second", "I", false)
  | 3 => ("SpadeRings$Parting", "third", "I", false)
  | _ => ("SpadeRings$Parting", "worth", "[I", true)
def tyX6 : Nat → FieldType := fun k => match k with
  | 0 => .int
  | 1 => .int
  | 2 => .int
  | 3 => .int
  | _ => .array .int
abbrev wsX60 : List Cond := u_ws RX6 TX6 5
theorem nmX6 : ∀ a, a < 5 → ∀ b, b < 5 → a ≠ b → (TX6 a).2.1 ≠ (TX6 b).2.1 := by decide +kernel
theorem tyX6_ok : ∀ k, k < 5 → parseFieldDescriptor (TX6 k).2.2.1 = some (tyX6 k) := by decide +kernel
abbrev cX6_init : ByteArray := prog_8_method_1_code
def yX6_init : MethodName := ⟨RX6, "<init>", "()V"⟩
abbrev cX6_part : ByteArray := prog_8_method_2_code
def yX6_part : MethodName := ⟨RX6, "part", "(LSpadeRings$Gang;II)V"⟩
abbrev cX6_partRest : ByteArray := prog_8_method_3_code
def yX6_partRest : MethodName := ⟨RX6, "partRest", "(II)V"⟩
abbrev cX6_offer : ByteArray := prog_8_method_4_code
def yX6_offer : MethodName := ⟨RX6, "offer", "(III)V"⟩
abbrev cX6_weigh : ByteArray := prog_8_method_5_code
def yX6_weigh : MethodName := ⟨RX6, "weigh", "(LSpadeRings$Gang;II)I"⟩
abbrev cX6_ringOf : ByteArray := prog_8_method_6_code
def yX6_ringOf : MethodName := ⟨RX6, "ringOf", "(I)I"⟩
def RX7 : String := "SpadeRings$Script"
def TX7 : u_T := fun k => match k with
  | 0 => ("SpadeRings$Script", "length", "I", false)
  | 1 => ("SpadeRings$Script", "bytes", "[I", true)
  | 2 => ("SpadeRings$Script", "tokens", "[I", true)
  | 3 => ("SpadeRings$Script", "starts", "[I", true)
  | 4 => ("SpadeRings$Script", "at", "I", false)
  | _ => ("SpadeRings$Script", "faulty", "Z", false)
def tyX7 : Nat → FieldType := fun k => match k with
  | 0 => .int
  | 1 => .array .int
  | 2 => .array .int
  | 3 => .array .int
  | 4 => .int
  | _ => .boolean
abbrev wsX70 : List Cond := u_ws RX7 TX7 6
theorem nmX7 : ∀ a, a < 6 → ∀ b, b < 6 → a ≠ b → (TX7 a).2.1 ≠ (TX7 b).2.1 := by decide +kernel
theorem tyX7_ok : ∀ k, k < 6 → parseFieldDescriptor (TX7 k).2.2.1 = some (tyX7 k) := by decide +kernel
abbrev cX7_init : ByteArray := prog_9_method_1_code
def yX7_init : MethodName := ⟨RX7, "<init>", "()V"⟩
abbrev cX7_hasRoomFor : ByteArray := prog_9_method_2_code
def yX7_hasRoomFor : MethodName := ⟨RX7, "hasRoomFor", "(I)Z"⟩
abbrev cX7_append : ByteArray := prog_9_method_3_code
def yX7_append : MethodName := ⟨RX7, "append", "(JI)V"⟩
abbrev cX7_wipe : ByteArray := prog_9_method_4_code
def yX7_wipe : MethodName := ⟨RX7, "wipe", "()I"⟩
abbrev cX7_readInto : ByteArray := prog_9_method_5_code
def yX7_readInto : MethodName := ⟨RX7, "readInto", "(LSpadeRings$Gang;)I"⟩
abbrev cX7_readItem : ByteArray := prog_9_method_6_code
def yX7_readItem : MethodName := ⟨RX7, "readItem", "(LSpadeRings$Gang;)V"⟩
abbrev cX7_readDigger : ByteArray := prog_9_method_7_code
def yX7_readDigger : MethodName := ⟨RX7, "readDigger", "(LSpadeRings$Gang;)V"⟩
abbrev cX7_readSpade : ByteArray := prog_9_method_8_code
def yX7_readSpade : MethodName := ⟨RX7, "readSpade", "(LSpadeRings$Gang;)V"⟩
abbrev cX7_readYard : ByteArray := prog_9_method_9_code
def yX7_readYard : MethodName := ⟨RX7, "readYard", "(LSpadeRings$Gang;)V"⟩
abbrev cX7_takeWord : ByteArray := prog_9_method_10_code
def yX7_takeWord : MethodName := ⟨RX7, "takeWord", "(Z)V"⟩
abbrev cX7_takeNumber : ByteArray := prog_9_method_11_code
def yX7_takeNumber : MethodName := ⟨RX7, "takeNumber", "(I)I"⟩
abbrev cX7_takeSemicolon : ByteArray := prog_9_method_12_code
def yX7_takeSemicolon : MethodName := ⟨RX7, "takeSemicolon", "()V"⟩
abbrev cX7_takes : ByteArray := prog_9_method_13_code
def yX7_takes : MethodName := ⟨RX7, "takes", "(I)Z"⟩
abbrev cX7_cutIntoTokens : ByteArray := prog_9_method_14_code
def yX7_cutIntoTokens : MethodName := ⟨RX7, "cutIntoTokens", "()V"⟩
abbrev cX7_behindBlanks : ByteArray := prog_9_method_15_code
def yX7_behindBlanks : MethodName := ⟨RX7, "behindBlanks", "(I)I"⟩
abbrev cX7_endOfToken : ByteArray := prog_9_method_16_code
def yX7_endOfToken : MethodName := ⟨RX7, "endOfToken", "(I)I"⟩
abbrev cX7_tokenOf : ByteArray := prog_9_method_17_code
def yX7_tokenOf : MethodName := ⟨RX7, "tokenOf", "(II)I"⟩
abbrev cX7_numberOf : ByteArray := prog_9_method_18_code
def yX7_numberOf : MethodName := ⟨RX7, "numberOf", "(II)I"⟩
abbrev cX7_wordOf : ByteArray := prog_9_method_19_code
def yX7_wordOf : MethodName := ⟨RX7, "wordOf", "(II)I"⟩
abbrev cX7_isWord : ByteArray := prog_9_method_20_code
def yX7_isWord : MethodName := ⟨RX7, "isWord", "(Ljava/lang/String;II)Z"⟩
abbrev cX7_isLetter : ByteArray := prog_9_method_21_code
def yX7_isLetter : MethodName := ⟨RX7, "isLetter", "(I)Z"⟩
abbrev cX7_isDigit : ByteArray := prog_9_method_22_code
def yX7_isDigit : MethodName := ⟨RX7, "isDigit", "(I)Z"⟩
def RX8 : String := "SpadeRings$Told"
def TX8 : u_T := fun k => match k with
  | 0 => ("SpadeRings$Told", "amount", "I", false)
  | 1 => ("SpadeRings$Told", "rounds", "[I", true)
  | 2 => ("SpadeRings$Told", "who", "[I", true)
  | _ => ("SpadeRings$Told", "with", "[I", true)
def tyX8 : Nat → FieldType := fun k => match k with
  | 0 => .int
  | 1 => .array .int
  | 2 => .array .int
  | _ => .array .int
abbrev wsX80 : List Cond := u_ws RX8 TX8 4
theorem nmX8 : ∀ a, a < 4 → ∀ b, b < 4 → a ≠ b → (TX8 a).2.1 ≠ (TX8 b).2.1 := by decide +kernel
theorem tyX8_ok : ∀ k, k < 4 → parseFieldDescriptor (TX8 k).2.2.1 = some (tyX8 k) := by decide +kernel
abbrev cX8_init : ByteArray := prog_10_method_1_code
def yX8_init : MethodName := ⟨RX8, "<init>", "()V"⟩
abbrev cX8_forget : ByteArray := prog_10_method_2_code
def yX8_forget : MethodName := ⟨RX8, "forget", "()V"⟩
abbrev cX8_add : ByteArray := prog_10_method_3_code
def yX8_add : MethodName := ⟨RX8, "add", "(III)Z"⟩
abbrev cX8_pairOf : ByteArray := prog_10_method_4_code
def yX8_pairOf : MethodName := ⟨RX8, "pairOf", "(I)J"⟩
abbrev cX8_whoThrewTwice : ByteArray := prog_10_method_5_code
def yX8_whoThrewTwice : MethodName := ⟨RX8, "whoThrewTwice", "()I"⟩
abbrev cX8_falseRounds : ByteArray := prog_10_method_6_code
def yX8_falseRounds : MethodName := ⟨RX8, "falseRounds", "()I"⟩
abbrev cX8_isFalse : ByteArray := prog_10_method_7_code
def yX8_isFalse : MethodName := ⟨RX8, "isFalse", "(I)Z"⟩
def RX9 : String := "SpadeRings"
def TX9 : u_T := fun k => match k with
  | 0 => ("SpadeRings", "script", "LSpadeRings$Script;", true)
  | 1 => ("SpadeRings", "crew", "LSpadeRings$Gang;", false)
  | 2 => ("SpadeRings", "draft", "LSpadeRings$Gang;", false)
  | 3 => ("SpadeRings", "present", "LSpadeRings$Now;", true)
  | 4 => ("SpadeRings", "images", "[LSpadeRings$Now;", true)
  | 5 => ("SpadeRings", "kept", "I", false)
  | 6 => ("SpadeRings", "follow", "LSpadeRings$Follow;", true)
  | 7 => ("SpadeRings", "harvest", "LSpadeRings$Harvest;", true)
  | 8 => ("SpadeRings", "parting", "LSpadeRings$Parting;", true)
  | 9 => ("SpadeRings", "encounter", "LSpadeRings$Meeting;", true)
  | 10 => ("SpadeRings", "holes", "LSpadeRings$Holes;", true)
  | 11 => ("SpadeRings", "told", "LSpadeRings$Told;", true)
  | _ => ("SpadeRings", "traced", "J", false)
def tyX9 : Nat → FieldType := fun k => match k with
  | 0 => .object "SpadeRings$Script"
  | 1 => .object "SpadeRings$Gang"
  | 2 => .object "SpadeRings$Gang"
  | 3 => .object "SpadeRings$Now"
  | 4 => .array (.object "SpadeRings$Now")
  | 5 => .int
  | 6 => .object "SpadeRings$Follow"
  | 7 => .object "SpadeRings$Harvest"
  | 8 => .object "SpadeRings$Parting"
  | 9 => .object "SpadeRings$Meeting"
  | 10 => .object "SpadeRings$Holes"
  | 11 => .object "SpadeRings$Told"
  | _ => .long
abbrev wsX90 : List Cond := u_ws RX9 TX9 13
theorem nmX9 : ∀ a, a < 13 → ∀ b, b < 13 → a ≠ b → (TX9 a).2.1 ≠ (TX9 b).2.1 := by decide +kernel
theorem tyX9_ok : ∀ k, k < 13 → parseFieldDescriptor (TX9 k).2.2.1 = some (tyX9 k) := by decide +kernel
abbrev cX9_init : ByteArray := prog_1_method_1_code
def yX9_init : MethodName := ⟨RX9, "<init>", "()V"⟩
abbrev cX9_type : ByteArray := prog_1_method_2_code
def yX9_type : MethodName := ⟨RX9, "type", "(JI)I"⟩
abbrev cX9_clear : ByteArray := prog_1_method_3_code
def yX9_clear : MethodName := ⟨RX9, "clear", "()I"⟩
abbrev cX9_gang : ByteArray := prog_1_method_4_code
def yX9_gang : MethodName := ⟨RX9, "gang", "()I"⟩
abbrev cX9_digger : ByteArray := prog_1_method_5_code
def yX9_digger : MethodName := ⟨RX9, "digger", "(II)I"⟩
abbrev cX9_spade : ByteArray := prog_1_method_6_code
def yX9_spade : MethodName := ⟨RX9, "spade", "(II)I"⟩
abbrev cX9_yard : ByteArray := prog_1_method_7_code
def yX9_yard : MethodName := ⟨RX9, "yard", "(II)I"⟩
abbrev cX9_may : ByteArray := prog_1_method_8_code
def yX9_may : MethodName := ⟨RX9, "may", "(II)I"⟩
abbrev cX9_throwWith : ByteArray := prog_1_method_9_code
def yX9_throwWith : MethodName := ⟨RX9, "throwWith", "(II)I"⟩
abbrev cX9_ends : ByteArray := prog_1_method_10_code
def yX9_ends : MethodName := ⟨RX9, "ends", "()I"⟩
abbrev cX9_breaks : ByteArray := prog_1_method_11_code
def yX9_breaks : MethodName := ⟨RX9, "breaks", "(I)I"⟩
abbrev cX9_now : ByteArray := prog_1_method_12_code
def yX9_now : MethodName := ⟨RX9, "now", "(I)I"⟩
abbrev cX9_anew : ByteArray := prog_1_method_13_code
def yX9_anew : MethodName := ⟨RX9, "anew", "()I"⟩
abbrev cX9_longest : ByteArray := prog_1_method_14_code
def yX9_longest : MethodName := ⟨RX9, "longest", "()I"⟩
abbrev cX9_begins : ByteArray := prog_1_method_15_code
def yX9_begins : MethodName := ⟨RX9, "begins", "(I)I"⟩
abbrev cX9_most : ByteArray := prog_1_method_16_code
def yX9_most : MethodName := ⟨RX9, "most", "(I)I"⟩
abbrev cX9_rings : ByteArray := prog_1_method_17_code
def yX9_rings : MethodName := ⟨RX9, "rings", "(III)I"⟩
abbrev cX9_meeting : ByteArray := prog_1_method_18_code
def yX9_meeting : MethodName := ⟨RX9, "meeting", "(IIIII)I"⟩
abbrev cX9_songs : ByteArray := prog_1_method_19_code
def yX9_songs : MethodName := ⟨RX9, "songs", "(IIII)I"⟩
abbrev cX9_hole : ByteArray := prog_1_method_20_code
def yX9_hole : MethodName := ⟨RX9, "hole", "(III)I"⟩
abbrev cX9_night : ByteArray := prog_1_method_21_code
def yX9_night : MethodName := ⟨RX9, "night", "(I)I"⟩
abbrev cX9_least : ByteArray := prog_1_method_22_code
def yX9_least : MethodName := ⟨RX9, "least", "()I"⟩
abbrev cX9_dry : ByteArray := prog_1_method_23_code
def yX9_dry : MethodName := ⟨RX9, "dry", "()I"⟩
abbrev cX9_tell : ByteArray := prog_1_method_24_code
def yX9_tell : MethodName := ⟨RX9, "tell", "(III)I"⟩
abbrev cX9_cheats : ByteArray := prog_1_method_25_code
def yX9_cheats : MethodName := ⟨RX9, "cheats", "(I)I"⟩
abbrev cX9_mark : ByteArray := prog_1_method_26_code
def yX9_mark : MethodName := ⟨RX9, "mark", "(II)I"⟩
abbrev cX9_keep : ByteArray := prog_1_method_27_code
def yX9_keep : MethodName := ⟨RX9, "keep", "(I)I"⟩
abbrev cX9_back : ByteArray := prog_1_method_28_code
def yX9_back : MethodName := ⟨RX9, "back", "(I)I"⟩
abbrev cX9_count : ByteArray := prog_1_method_29_code
def yX9_count : MethodName := ⟨RX9, "count", "(I)I"⟩
abbrev cX9_trace : ByteArray := prog_1_method_30_code
def yX9_trace : MethodName := ⟨RX9, "trace", "()J"⟩
abbrev cX9_imageAt : ByteArray := prog_1_method_31_code
def yX9_imageAt : MethodName := ⟨RX9, "imageAt", "(I)LSpadeRings$Now;"⟩
abbrev cX9_markAsPerson : ByteArray := prog_1_method_32_code
def yX9_markAsPerson : MethodName := ⟨RX9, "markAsPerson", "(I)I"⟩
abbrev cX9_markAsDigger : ByteArray := prog_1_method_33_code
def yX9_markAsDigger : MethodName := ⟨RX9, "markAsDigger", "(I)I"⟩
abbrev cX9_markAsSinger : ByteArray := prog_1_method_34_code
def yX9_markAsSinger : MethodName := ⟨RX9, "markAsSinger", "(I)I"⟩
abbrev cX9_markAsLeft : ByteArray := prog_1_method_35_code
def yX9_markAsLeft : MethodName := ⟨RX9, "markAsLeft", "(I)I"⟩
abbrev cX9_markAsProphet : ByteArray := prog_1_method_36_code
def yX9_markAsProphet : MethodName := ⟨RX9, "markAsProphet", "(I)I"⟩
abbrev cX9_markAsSlow : ByteArray := prog_1_method_37_code
def yX9_markAsSlow : MethodName := ⟨RX9, "markAsSlow", "(I)I"⟩
abbrev cX9_within : ByteArray := prog_1_method_38_code
def yX9_within : MethodName := ⟨RX9, "within", "(III)Z"⟩
abbrev cX9_hasBit : ByteArray := prog_1_method_39_code
def yX9_hasBit : MethodName := ⟨RX9, "hasBit", "(II)Z"⟩
abbrev cX9_asNumber : ByteArray := prog_1_method_40_code
def yX9_asNumber : MethodName := ⟨RX9, "asNumber", "(Z)I"⟩
abbrev cX9_cell : ByteArray := prog_1_method_41_code
def yX9_cell : MethodName := ⟨RX9, "cell", "([II)I"⟩
abbrev cX9_put : ByteArray := prog_1_method_42_code
def yX9_put : MethodName := ⟨RX9, "put", "([III)V"⟩
abbrev cX9_fill : ByteArray := prog_1_method_43_code
def yX9_fill : MethodName := ⟨RX9, "fill", "([II)V"⟩
abbrev cX9_copy : ByteArray := prog_1_method_44_code
def yX9_copy : MethodName := ⟨RX9, "copy", "([I[I)V"⟩
abbrev cX9_quotient : ByteArray := prog_1_method_45_code
def yX9_quotient : MethodName := ⟨RX9, "quotient", "(II)I"⟩
abbrev cX9_remainder : ByteArray := prog_1_method_46_code
def yX9_remainder : MethodName := ⟨RX9, "remainder", "(II)I"⟩
def RX10 : String := "SpadeRingsModel"
def TX10 : u_T := fun k => match k with
  | 0 => ("SpadeRingsModel", "trace", "J", false)
  | 1 => ("SpadeRingsModel", "text", "[B", true)
  | 2 => ("SpadeRingsModel", "typed", "I", false)
  | 3 => ("SpadeRingsModel", "diggers", "[I", true)
  | 4 => ("SpadeRingsModel", "strength", "[I", true)
  | 5 => ("SpadeRingsModel", "pace", "[I", true)
  | 6 => ("SpadeRingsModel", "hand", "[I", true)
  | 7 => ("SpadeRingsModel", "spades", "[I", true)
  | 8 => ("SpadeRingsModel", "sharp", "[I", true)
  | 9 => ("SpadeRingsModel", "whose", "[I", true)
  | 10 => ("SpadeRingsModel", "yards", "[I", true)
  | 11 => ("SpadeRingsModel", "deep", "[I", true)
  | 12 => ("SpadeRingsModel", "soil", "[I", true)
  | 13 => ("SpadeRingsModel", "at", "I", false)
  | 14 => ("SpadeRingsModel", "start", "I", false)
  | 15 => ("SpadeRingsModel", "sort", "I", false)
  | 16 => ("SpadeRingsModel", "value", "I", false)
  | 17 => ("SpadeRingsModel", "fault", "I", false)
  | 18 => ("SpadeRingsModel", "now", "[I", true)
  | 19 => ("SpadeRingsModel", "isKept", "[Z", true)
  | 20 => ("SpadeRingsModel", "edge", "[Z", true)
  | 21 => ("SpadeRingsModel", "taken", "[Z", true)
  | 22 => ("SpadeRingsModel", "hasD", "[I", true)
  | 23 => ("SpadeRingsModel", "hasS", "[I", true)
  | 24 => ("SpadeRingsModel", "gainD", "[I", true)
  | 25 => ("SpadeRingsModel", "gainS", "[I", true)
  | 26 => ("SpadeRingsModel", "fromD", "[I", true)
  | 27 => ("SpadeRingsModel", "fromS", "[I", true)
  | 28 => ("SpadeRingsModel", "row", "[I", true)
  | 29 => ("SpadeRingsModel", "ring", "[I", true)
  | 30 => ("SpadeRingsModel", "bestRing", "[I", true)
  | 31 => ("SpadeRingsModel", "left", "[I", true)
  | 32 => ("SpadeRingsModel", "lastYard", "I", false)
  | 33 => ("SpadeRingsModel", "holes", "I", false)
  | 34 => ("SpadeRingsModel", "holeT", "[I", true)
  | 35 => ("SpadeRingsModel", "holeC", "[I", true)
  | 36 => ("SpadeRingsModel", "holeU", "[I", true)
  | 37 => ("SpadeRingsModel", "open", "[I", true)
  | 38 => ("SpadeRingsModel", "told", "I", false)
  | 39 => ("SpadeRingsModel", "toldR", "[I", true)
  | 40 => ("SpadeRingsModel", "toldD", "[I", true)
  | _ => ("SpadeRingsModel", "toldS", "[I", true)
def tyX10 : Nat → FieldType := fun k => match k with
  | 0 => .long
  | 1 => .array .byte
  | 2 => .int
  | 3 => .array .int
  | 4 => .array .int
  | 5 => .array .int
  | 6 => .array .int
  | 7 => .array .int
  | 8 => .array .int
  | 9 => .array .int
  | 10 => .array .int
  | 11 => .array .int
  | 12 => .array .int
  | 13 => .int
  | 14 => .int
  | 15 => .int
  | 16 => .int
  | 17 => .int
  | 18 => .array .int
  | 19 => .array .boolean
  | 20 => .array .boolean
  | 21 => .array .boolean
  | 22 => .array .int
  | 23 => .array .int
  | 24 => .array .int
  | 25 => .array .int
  | 26 => .array .int
  | 27 => .array .int
  | 28 => .array .int
  | 29 => .array .int
  | 30 => .array .int
  | 31 => .array .int
  | 32 => .int
  | 33 => .int
  | 34 => .array .int
  | 35 => .array .int
  | 36 => .array .int
  | 37 => .array .int
  | 38 => .int
  | 39 => .array .int
  | 40 => .array .int
  | _ => .array .int
abbrev wsX100 : List Cond := u_ws RX10 TX10 42
theorem nmX10 : ∀ a, a < 42 → ∀ b, b < 42 → a ≠ b → (TX10 a).2.1 ≠ (TX10 b).2.1 := by decide +kernel
theorem tyX10_ok : ∀ k, k < 42 → parseFieldDescriptor (TX10 k).2.2.1 = some (tyX10 k) := by decide +kernel
abbrev cX10_init : ByteArray := prog_12_method_1_code
def yX10_init : MethodName := ⟨RX10, "<init>", "()V"⟩
abbrev cX10_in : ByteArray := prog_12_method_3_code
def yX10_in : MethodName := ⟨RX10, "in", "(III)Z"⟩
abbrev cX10_type : ByteArray := prog_12_method_4_code
def yX10_type : MethodName := ⟨RX10, "type", "(JI)I"⟩
abbrev cX10_clear : ByteArray := prog_12_method_5_code
def yX10_clear : MethodName := ⟨RX10, "clear", "()I"⟩
abbrev cX10_here : ByteArray := prog_12_method_6_code
def yX10_here : MethodName := ⟨RX10, "here", "()I"⟩
abbrev cX10_meaning : ByteArray := prog_12_method_7_code
def yX10_meaning : MethodName := ⟨RX10, "meaning", "(I)I"⟩
abbrev cX10_next : ByteArray := prog_12_method_8_code
def yX10_next : MethodName := ⟨RX10, "next", "()V"⟩
abbrev cX10_due : ByteArray := prog_12_method_9_code
def yX10_due : MethodName := ⟨RX10, "due", "(Z)I"⟩
abbrev cX10_number : ByteArray := prog_12_method_10_code
def yX10_number : MethodName := ⟨RX10, "number", "(II)I"⟩
abbrev cX10_side : ByteArray := prog_12_method_11_code
def yX10_side : MethodName := ⟨RX10, "side", "(Z)I"⟩
abbrev cX10_readItem : ByteArray := prog_12_method_12_code
def yX10_readItem : MethodName := ⟨RX10, "readItem", "()V"⟩
abbrev cX10_gang : ByteArray := prog_12_method_13_code
def yX10_gang : MethodName := ⟨RX10, "gang", "()I"⟩
abbrev cX10_isDigger : ByteArray := prog_12_method_14_code
def yX10_isDigger : MethodName := ⟨RX10, "isDigger", "(I)Z"⟩
abbrev cX10_isSpade : ByteArray := prog_12_method_15_code
def yX10_isSpade : MethodName := ⟨RX10, "isSpade", "(I)Z"⟩
abbrev cX10_bitsIn : ByteArray := prog_12_method_16_code
def yX10_bitsIn : MethodName := ⟨RX10, "bitsIn", "(I)I"⟩
abbrev cX10_digger : ByteArray := prog_12_method_17_code
def yX10_digger : MethodName := ⟨RX10, "digger", "(II)I"⟩
abbrev cX10_spade : ByteArray := prog_12_method_18_code
def yX10_spade : MethodName := ⟨RX10, "spade", "(II)I"⟩
abbrev cX10_yard : ByteArray := prog_12_method_19_code
def yX10_yard : MethodName := ⟨RX10, "yard", "(II)I"⟩
abbrev cX10_mayNow : ByteArray := prog_12_method_20_code
def yX10_mayNow : MethodName := ⟨RX10, "mayNow", "(II)Z"⟩
abbrev cX10_may : ByteArray := prog_12_method_21_code
def yX10_may : MethodName := ⟨RX10, "may", "(II)I"⟩
abbrev cX10_yardNow : ByteArray := prog_12_method_22_code
def yX10_yardNow : MethodName := ⟨RX10, "yardNow", "()I"⟩
abbrev cX10_throwWith : ByteArray := prog_12_method_23_code
def yX10_throwWith : MethodName := ⟨RX10, "throwWith", "(II)I"⟩
abbrev cX10_ends : ByteArray := prog_12_method_24_code
def yX10_ends : MethodName := ⟨RX10, "ends", "()I"⟩
abbrev cX10_breaks : ByteArray := prog_12_method_25_code
def yX10_breaks : MethodName := ⟨RX10, "breaks", "(I)I"⟩
abbrev cX10_now : ByteArray := prog_12_method_26_code
def yX10_now : MethodName := ⟨RX10, "now", "(I)I"⟩
abbrev cX10_anew : ByteArray := prog_12_method_27_code
def yX10_anew : MethodName := ⟨RX10, "anew", "()I"⟩
abbrev cX10_findEdges : ByteArray := prog_12_method_28_code
def yX10_findEdges : MethodName := ⟨RX10, "findEdges", "()V"⟩
abbrev cX10_begin : ByteArray := prog_12_method_29_code
def yX10_begin : MethodName := ⟨RX10, "begin", "()V"⟩
abbrev cX10_weight : ByteArray := prog_12_method_30_code
def yX10_weight : MethodName := ⟨RX10, "weight", "(IZ)I"⟩
abbrev cX10_findWays : ByteArray := prog_12_method_31_code
def yX10_findWays : MethodName := ⟨RX10, "findWays", "(IZ)V"⟩
abbrev cX10_augment : ByteArray := prog_12_method_32_code
def yX10_augment : MethodName := ⟨RX10, "augment", "(IZ)I"⟩
abbrev cX10_isLong : ByteArray := prog_12_method_33_code
def yX10_isLong : MethodName := ⟨RX10, "isLong", "(I)Z"⟩
abbrev cX10_longestBy : ByteArray := prog_12_method_34_code
def yX10_longestBy : MethodName := ⟨RX10, "longestBy", "()I"⟩
abbrev cX10_longest : ByteArray := prog_12_method_35_code
def yX10_longest : MethodName := ⟨RX10, "longest", "()I"⟩
abbrev cX10_isUsed : ByteArray := prog_12_method_36_code
def yX10_isUsed : MethodName := ⟨RX10, "isUsed", "(I)Z"⟩
abbrev cX10_leaves : ByteArray := prog_12_method_37_code
def yX10_leaves : MethodName := ⟨RX10, "leaves", "(I)Z"⟩
abbrev cX10_begins : ByteArray := prog_12_method_38_code
def yX10_begins : MethodName := ⟨RX10, "begins", "(I)I"⟩
abbrev cX10_most : ByteArray := prog_12_method_39_code
def yX10_most : MethodName := ⟨RX10, "most", "(I)I"⟩
abbrev cX10_dugBy : ByteArray := prog_12_method_40_code
def yX10_dugBy : MethodName := ⟨RX10, "dugBy", "(II)I"⟩
abbrev cX10_part : ByteArray := prog_12_method_41_code
def yX10_part : MethodName := ⟨RX10, "part", "(II)Z"⟩
abbrev cX10_isAhead : ByteArray := prog_12_method_42_code
def yX10_isAhead : MethodName := ⟨RX10, "isAhead", "()Z"⟩
abbrev cX10_rings : ByteArray := prog_12_method_43_code
def yX10_rings : MethodName := ⟨RX10, "rings", "(III)I"⟩
abbrev cX10_stroke : ByteArray := prog_12_method_44_code
def yX10_stroke : MethodName := ⟨RX10, "stroke", "(II)I"⟩
abbrev cX10_allLeft : ByteArray := prog_12_method_45_code
def yX10_allLeft : MethodName := ⟨RX10, "allLeft", "()I"⟩
abbrev cX10_meeting : ByteArray := prog_12_method_46_code
def yX10_meeting : MethodName := ⟨RX10, "meeting", "(IIIII)I"⟩
abbrev cX10_songs : ByteArray := prog_12_method_47_code
def yX10_songs : MethodName := ⟨RX10, "songs", "(IIII)I"⟩
abbrev cX10_hole : ByteArray := prog_12_method_48_code
def yX10_hole : MethodName := ⟨RX10, "hole", "(III)I"⟩
abbrev cX10_nextHole : ByteArray := prog_12_method_49_code
def yX10_nextHole : MethodName := ⟨RX10, "nextHole", "(I)I"⟩
abbrev cX10_isClosed : ByteArray := prog_12_method_50_code
def yX10_isClosed : MethodName := ⟨RX10, "isClosed", "(I)Z"⟩
abbrev cX10_night : ByteArray := prog_12_method_51_code
def yX10_night : MethodName := ⟨RX10, "night", "(I)I"⟩
abbrev cX10_least : ByteArray := prog_12_method_52_code
def yX10_least : MethodName := ⟨RX10, "least", "()I"⟩
abbrev cX10_dry : ByteArray := prog_12_method_53_code
def yX10_dry : MethodName := ⟨RX10, "dry", "()I"⟩
abbrev cX10_tell : ByteArray := prog_12_method_54_code
def yX10_tell : MethodName := ⟨RX10, "tell", "(III)I"⟩
abbrev cX10_isFalse : ByteArray := prog_12_method_55_code
def yX10_isFalse : MethodName := ⟨RX10, "isFalse", "(I)Z"⟩
abbrev cX10_cheats : ByteArray := prog_12_method_56_code
def yX10_cheats : MethodName := ⟨RX10, "cheats", "(I)I"⟩
abbrev cX10_mark : ByteArray := prog_12_method_57_code
def yX10_mark : MethodName := ⟨RX10, "mark", "(II)I"⟩
abbrev cX10_copy : ByteArray := prog_12_method_58_code
def yX10_copy : MethodName := ⟨RX10, "copy", "(II)V"⟩
abbrev cX10_keep : ByteArray := prog_12_method_59_code
def yX10_keep : MethodName := ⟨RX10, "keep", "(I)I"⟩
abbrev cX10_back : ByteArray := prog_12_method_60_code
def yX10_back : MethodName := ⟨RX10, "back", "(I)I"⟩
abbrev cX10_count : ByteArray := prog_12_method_61_code
def yX10_count : MethodName := ⟨RX10, "count", "(I)I"⟩
abbrev cX10_trace : ByteArray := prog_12_method_62_code
def yX10_trace : MethodName := ⟨RX10, "trace", "()J"⟩
def RJ6 : String := "java/lang/Integer"
def TJ6 : u_T := fun k => match k with
  | _ => ("", "", "", false)
def tyJ6 : Nat → FieldType := fun k => match k with
  | _ => .int
abbrev wsJ60 : List Cond := u_ws RJ6 TJ6 0
theorem nmJ6 : ∀ a, a < 0 → ∀ b, b < 0 → a ≠ b → (TJ6 a).2.1 ≠ (TJ6 b).2.1 := by decide +kernel
theorem tyJ6_ok : ∀ k, k < 0 → parseFieldDescriptor (TJ6 k).2.2.1 = some (tyJ6 k) := by decide +kernel
abbrev cJ6_bitCount_0f7a4 : ByteArray := prog_13_method_49_code
def yJ6_bitCount_0f7a4 : MethodName := ⟨RJ6, "bitCount", "(I)I"⟩
def RJ13 : String := "java/lang/Long"
def TJ13 : u_T := fun k => match k with
  | _ => ("", "", "", false)
def tyJ13 : Nat → FieldType := fun k => match k with
  | _ => .int
abbrev wsJ130 : List Cond := u_ws RJ13 TJ13 0
theorem nmJ13 : ∀ a, a < 0 → ∀ b, b < 0 → a ≠ b → (TJ13 a).2.1 ≠ (TJ13 b).2.1 := by decide +kernel
theorem tyJ13_ok : ∀ k, k < 0 → parseFieldDescriptor (TJ13 k).2.2.1 = some (tyJ13 k) := by decide +kernel
abbrev cJ13_bitCount_95d88 : ByteArray := prog_14_method_50_code
def yJ13_bitCount_95d88 : MethodName := ⟨RJ13, "bitCount", "(J)I"⟩
def RJ9 : String := "java/lang/Math"
def TJ9 : u_T := fun k => match k with
  | _ => ("", "", "", false)
def tyJ9 : Nat → FieldType := fun k => match k with
  | _ => .int
abbrev wsJ90 : List Cond := u_ws RJ9 TJ9 0
theorem nmJ9 : ∀ a, a < 0 → ∀ b, b < 0 → a ≠ b → (TJ9 a).2.1 ≠ (TJ9 b).2.1 := by decide +kernel
theorem tyJ9_ok : ∀ k, k < 0 → parseFieldDescriptor (TJ9 k).2.2.1 = some (tyJ9 k) := by decide +kernel
abbrev cJ9_floorMod_7cf53 : ByteArray := prog_15_method_50_code
def yJ9_floorMod_7cf53 : MethodName := ⟨RJ9, "floorMod", "(II)I"⟩
abbrev cJ9_max_7cf53 : ByteArray := prog_15_method_65_code
def yJ9_max_7cf53 : MethodName := ⟨RJ9, "max", "(II)I"⟩
abbrev cJ9_min_7cf53 : ByteArray := prog_15_method_69_code
def yJ9_min_7cf53 : MethodName := ⟨RJ9, "min", "(II)I"⟩
def RJ0 : String := "java/lang/String"
def TJ0 : u_T := fun k => match k with
  | _ => ("", "", "", false)
def tyJ0 : Nat → FieldType := fun k => match k with
  | _ => .int
abbrev wsJ00 : List Cond := u_ws RJ0 TJ0 0
theorem nmJ0 : ∀ a, a < 0 → ∀ b, b < 0 → a ≠ b → (TJ0 a).2.1 ≠ (TJ0 b).2.1 := by decide +kernel
theorem tyJ0_ok : ∀ k, k < 0 → parseFieldDescriptor (TJ0 k).2.2.1 = some (tyJ0 k) := by decide +kernel
abbrev cJ0_length_8abf5 : ByteArray := prog_16_method_54_code
def yJ0_length_8abf5 : MethodName := ⟨RJ0, "length", "()I"⟩
abbrev cJ0_charAt_5068e : ByteArray := prog_16_method_56_code
def yJ0_charAt_5068e : MethodName := ⟨RJ0, "charAt", "(I)C"⟩
abbrev cJ0_coder_7d493 : ByteArray := prog_16_method_152_code
def yJ0_coder_7d493 : MethodName := ⟨RJ0, "coder", "()B"⟩
abbrev cJ0_isLatin1_aae02 : ByteArray := prog_16_method_154_code
def yJ0_isLatin1_aae02 : MethodName := ⟨RJ0, "isLatin1", "()Z"⟩
abbrev cJ0_checkIndex_df160 : ByteArray := prog_16_method_155_code
def yJ0_checkIndex_df160 : MethodName := ⟨RJ0, "checkIndex", "(II)V"⟩
def RJ1 : String := "java/lang/StringLatin1"
def TJ1 : u_T := fun k => match k with
  | _ => ("", "", "", false)
def tyJ1 : Nat → FieldType := fun k => match k with
  | _ => .int
abbrev wsJ10 : List Cond := u_ws RJ1 TJ1 0
theorem nmJ1 : ∀ a, a < 0 → ∀ b, b < 0 → a ≠ b → (TJ1 a).2.1 ≠ (TJ1 b).2.1 := by decide +kernel
theorem tyJ1_ok : ∀ k, k < 0 → parseFieldDescriptor (TJ1 k).2.2.1 = some (tyJ1 k) := by decide +kernel
abbrev cJ1_charAt_3b067 : ByteArray := prog_17_method_2_code
def yJ1_charAt_3b067 : MethodName := ⟨RJ1, "charAt", "([BI)C"⟩
def RJ2 : String := "java/lang/StringUTF16"
def TJ2 : u_T := fun k => match k with
  | _ => ("", "", "", false)
def tyJ2 : Nat → FieldType := fun k => match k with
  | _ => .int
abbrev wsJ20 : List Cond := u_ws RJ2 TJ2 0
theorem nmJ2 : ∀ a, a < 0 → ∀ b, b < 0 → a ≠ b → (TJ2 a).2.1 ≠ (TJ2 b).2.1 := by decide +kernel
theorem tyJ2_ok : ∀ k, k < 0 → parseFieldDescriptor (TJ2 k).2.2.1 = some (tyJ2 k) := by decide +kernel
abbrev cJ2_getChar_3b067 : ByteArray := prog_18_method_5_code
def yJ2_getChar_3b067 : MethodName := ⟨RJ2, "getChar", "([BI)C"⟩
abbrev cJ2_length_9d52b : ByteArray := prog_18_method_6_code
def yJ2_length_9d52b : MethodName := ⟨RJ2, "length", "([B)I"⟩
abbrev cJ2_charAt_3b067 : ByteArray := prog_18_method_83_code
def yJ2_charAt_3b067 : MethodName := ⟨RJ2, "charAt", "([BI)C"⟩
abbrev cJ2_checkIndex_2214a : ByteArray := prog_18_method_91_code
def yJ2_checkIndex_2214a : MethodName := ⟨RJ2, "checkIndex", "(I[B)V"⟩
def RJ3 : String := "jdk/internal/util/Preconditions"
def TJ3 : u_T := fun k => match k with
  | _ => ("", "", "", false)
def tyJ3 : Nat → FieldType := fun k => match k with
  | _ => .int
abbrev wsJ30 : List Cond := u_ws RJ3 TJ3 0
theorem nmJ3 : ∀ a, a < 0 → ∀ b, b < 0 → a ≠ b → (TJ3 a).2.1 ≠ (TJ3 b).2.1 := by decide +kernel
theorem tyJ3_ok : ∀ k, k < 0 → parseFieldDescriptor (TJ3 k).2.2.1 = some (tyJ3 k) := by decide +kernel
abbrev cJ3_checkIndex_8e157 : ByteArray := prog_19_method_11_code
def yJ3_checkIndex_8e157 : MethodName := ⟨RJ3, "checkIndex", "(IILjava/util/function/BiFunction;)I"⟩
def RL : String := "SpadeRingsLaw"
abbrev cL_law : ByteArray := code

abbrev vwCl : List vw_C := [(RX0, TX0, 5), (RX1, TX1, 10), (RX2, TX2, 8), (RX3, TX3, 4), (RX4, TX4, 7), (RX5, TX5, 9), (RX6, TX6, 5), (RX7, TX7, 6), (RX8, TX8, 4), (RX9, TX9, 13), (RX10, TX10, 42)]
end
section
/-! THE SMALL MACHINE: one state of numbers for all cells of both objects, a step, a run, calls by number -/
/-- ints and longs: place, index -/
abbrev mSt : Type := (Nat → Nat → Int32) × (Nat → Nat → Int64)
/-- a row of code: the instruction, its length, numbers (class, field, callee, places of words), a constant -/
abbrev mE : Type := Instr × Nat × List Nat × Int
abbrev mLs : Type := List (Option Value)
def mU (f : Nat → Nat → Int32) (p k : Nat) (x : Int32) : Nat → Nat → Int32 := fun q => if q = p then upd (f p) k x else f q
def mUL (f : Nat → Nat → Int64) (p k : Nat) (x : Int64) : Nat → Nat → Int64 := fun q => if q = p then vp_updL (f p) k x else f q
/-- the layout of the 86 cells: kind (0 int row, 1 byte row, 2 boolean row, 3 row of images, 4 object), its length or class, its fields or elements (0 int, 1 long, 2 a fixed cell, 3 a cell told by an int, 5 boolean) -/
def layL : List (Nat × Nat × List (Nat × Nat)) := [(4, 9, [(2, 1), (3, 0), (3, 0), (2, 21), (2, 24), (0, 0), (2, 31), (2, 34), (2, 42), (2, 44), (2, 45), (2, 49), (1, 0)]), (4, 7, [(0, 0), (2, 2), (2, 3), (2, 4), (0, 0), (5, 0)]), (0, 300, []), (0, 301, []), (0, 301, []), (4, 1, [(0, 0), (0, 0), (0, 0), (2, 6), (2, 7), (2, 8), (2, 9), (2, 10), (2, 11), (2, 12)]), (0, 6, []), (0, 6, []), (0, 6, []), (0, 8, []), (0, 8, []), (0, 8, []), (0, 8, []), (4, 1, [(0, 0), (0, 0), (0, 0), (2, 14), (2, 15), (2, 16), (2, 17), (2, 18), (2, 19), (2, 20)]), (0, 6, []), (0, 6, []), (0, 6, []), (0, 8, []), (0, 8, []), (0, 8, []), (0, 8, []), (4, 5, [(0, 0), (0, 0), (0, 0), (0, 0), (0, 0), (0, 0), (0, 0), (2, 22), (2, 23)]), (0, 6, []), (0, 8, []), (3, 2, [(2, 25), (2, 28)]), (4, 5, [(0, 0), (0, 0), (0, 0), (0, 0), (0, 0), (0, 0), (0, 0), (2, 26), (2, 27)]), (0, 6, []), (0, 8, []), (4, 5, [(0, 0), (0, 0), (0, 0), (0, 0), (0, 0), (0, 0), (0, 0), (2, 29), (2, 30)]), (0, 6, []), (0, 8, []), (4, 0, [(0, 0), (2, 32), (0, 0), (1, 0), (2, 33)]), (0, 6, []), (0, 8, []), (4, 2, [(0, 0), (2, 35), (2, 36), (2, 37), (2, 38), (2, 39), (2, 40), (2, 41)]), (0, 6, []), (0, 6, []), (0, 8, []), (0, 6, []), (0, 8, []), (0, 6, []), (0, 8, []), (4, 6, [(0, 0), (0, 0), (0, 0), (0, 0), (2, 43)]), (0, 64, []), (4, 4, [(0, 0), (0, 0), (0, 0), (0, 0), (0, 0), (0, 0), (0, 0)]), (4, 3, [(0, 0), (2, 46), (2, 47), (2, 48)]), (0, 8, []), (0, 8, []), (0, 8, []), (4, 8, [(0, 0), (2, 50), (2, 51), (2, 52)]), (0, 30, []), (0, 30, []), (0, 30, []), (4, 10, [(1, 0), (2, 54), (0, 0), (2, 55), (2, 56), (2, 57), (2, 58), (2, 59), (2, 60), (2, 61), (2, 62), (2, 63), (2, 64), (0, 0), (0, 0), (0, 0), (0, 0), (0, 0), (2, 65), (2, 66), (2, 67), (2, 68), (2, 69), (2, 70), (2, 71), (2, 72), (2, 73), (2, 74), (2, 75), (2, 76), (2, 77), (2, 78), (0, 0), (0, 0), (2, 79), (2, 80), (2, 81), (2, 82), (0, 0), (2, 83), (2, 84), (2, 85)]), (1, 300, []), (0, 2, []), (0, 12, []), (0, 12, []), (0, 12, []), (0, 2, []), (0, 16, []), (0, 16, []), (0, 2, []), (0, 16, []), (0, 16, []), (0, 60, []), (2, 2, []), (2, 48, []), (2, 48, []), (0, 6, []), (0, 8, []), (0, 6, []), (0, 8, []), (0, 6, []), (0, 8, []), (0, 6, []), (0, 3, []), (0, 3, []), (0, 8, []), (0, 8, []), (0, 8, []), (0, 8, []), (0, 8, []), (0, 30, []), (0, 30, []), (0, 30, [])]
/-- beyond: 100 .. the five texts, 110 .. their bytes, 120 the script, 130 a thing that nobody looks at -/
def lay (p : Nat) : Nat × Nat × List (Nat × Nat) :=
  if p < 86 then layL.getD p (9, 0, []) else if 100 ≤ p ∧ p < 105 then (5, p - 100, []) else if 110 ≤ p ∧ p < 115 then (6, p - 110, []) else if p = 120 then (7, 0, []) else (9, 0, [])
def lenK : List Nat := [6, 5, 4, 5, 4]
def bytK : List (List Int32) := [[100, 105, 103, 103, 101, 114], [115, 112, 97, 100, 101], [121, 97, 114, 100], [114, 105, 103, 104, 116], [108, 101, 102, 116]]
def mFld (st : mSt) (p k : Nat) (f : Nat × Nat) : Value := match f.1 with
  | 0 => .int (st.1 p k)
  | 5 => .int (st.1 p k)
  | 1 => .long (st.2 p k)
  | 2 => .ref f.2
  | _ => .ref (st.1 p k).toNatClampNeg
def mGet (ls : mLs) (i : Nat) : Option Value := ls.getD i none
def mKill (ls : mLs) (i : Nat) : mLs := match i with
  | 0 => ls
  | j + 1 => match ls.getD j none with
    | some v => if v.category = 2 then ls.set j none else ls
    | none => ls
def mSet1 (ls : mLs) (i : Nat) (v : Value) : mLs := (mKill ls i).set i (some v)
def mSet2 (ls : mLs) (i : Nat) (v : Value) : mLs := ((mKill ls i).set i (some v)).set (i + 1) none
def mTgt (pc : Nat) (off : Int) : Nat := ((pc : Int) + off).toNat
def mJ (pc : Nat) (off : Int) : Prop := 0 ≤ (pc : Int) + off
def mCat (l : List Value) : Nat := (l.map fun v => v.category).sum
/-- the receiver of a call of a method of class c (50: a text) -/
def mRecv (c : Nat) (v : Value) : Prop := match v with
  | .ref p => ((lay p).1 = 4 ∧ (lay p).2.1 = c) ∨ ((lay p).1 = 5 ∧ c = 50)
  | _ => False
def mIf (c : ClassFile.Cond) (x y : Int32) : Prop := match c with
  | .eq => x = y
  | .ne => ¬ x = y
  | .lt => x < y
  | .ge => y ≤ x
  | .gt => y < x
  | .le => x ≤ y
/-- an answer that a method of this kind may give -/
def mRet (rt : Option FieldType) (v : Option Value) : Prop := match v with
  | none => rt = none
  | some (.int x) => ∃ ty, rt = some ty ∧ narrow ty (.int x) = .int x
  | some (.long _) => rt = some .long
  | some (.ref a) => (∃ n, rt = some (.object n)) ∧ a ≠ 130
  | some .null => ∃ n, rt = some (.object n)
  | _ => False
/-- one step: 'K' is what holds of the state behind it -/
def mStep (C : Nat → List Value → mSt → Option Value → mSt → Prop) (S : Nat × (Nat → Int32)) (rt : Option FieldType) (Q : Option Value → mSt → Prop) (K : Nat → mLs → List Value → mSt → Prop) (e : mE) (pc : Nat) (ls : mLs) (sk : List Value) (st : mSt) : Prop :=
  match e.1 with
  | .iconst n => K (pc + 1) ls (.int (Int32.ofInt n) :: sk) st
  | .bipush n => K (pc + 2) ls (.int (Int8.ofInt n).toInt32 :: sk) st
  | .sipush n => K (pc + 3) ls (.int (Int16.ofInt n).toInt32 :: sk) st
  | .lconst n => K (pc + 1) ls (.long (Int64.ofNat (n : Nat)) :: sk) st
  | .aconst_null => K (pc + 1) ls (.null :: sk) st
  | .ldc _ => match e.2.2.1 with
    | [0, _] => K (pc + 2) ls (.int (Int32.ofInt e.2.2.2) :: sk) st
    | [1, i] => K (pc + 2) ls (.ref (100 + i) :: sk) st
    | _ => False
  | .ldc_w _ => match e.2.2.1 with | [_] => K (pc + 3) ls (.int (Int32.ofInt e.2.2.2) :: sk) st | _ => False
  | .ldc2_w _ => match e.2.2.1 with | [_] => K (pc + 3) ls (.long (Int64.ofInt e.2.2.2) :: sk) st | _ => False
  | .iload_n i => match mGet ls i with | some (.int x) => K (pc + 1) ls (.int x :: sk) st | _ => False
  | .iload i => match mGet ls i with | some (.int x) => K (pc + 2) ls (.int x :: sk) st | _ => False
  | .lload_n i => match mGet ls i with | some (.long x) => K (pc + 1) ls (.long x :: sk) st | _ => False
  | .lload i => match mGet ls i with | some (.long x) => K (pc + 2) ls (.long x :: sk) st | _ => False
  | .aload_n i => match mGet ls i with | some (.ref x) => bif Nat.beq x 130 then False else K (pc + 1) ls (.ref x :: sk) st | some .null => K (pc + 1) ls (.null :: sk) st | _ => False
  | .aload i => match mGet ls i with | some (.ref x) => bif Nat.beq x 130 then False else K (pc + 2) ls (.ref x :: sk) st | some .null => K (pc + 2) ls (.null :: sk) st | _ => False
  | .istore_n i => match sk with | .int x :: r => bif Nat.blt i ls.length then K (pc + 1) (mSet1 ls i (.int x)) r st else False | _ => False
  | .istore i => match sk with | .int x :: r => bif Nat.blt i ls.length then K (pc + 2) (mSet1 ls i (.int x)) r st else False | _ => False
  | .lstore_n i => match sk with | .long x :: r => bif Nat.blt (i + 1) ls.length then K (pc + 1) (mSet2 ls i (.long x)) r st else False | _ => False
  | .lstore i => match sk with | .long x :: r => bif Nat.blt (i + 1) ls.length then K (pc + 2) (mSet2 ls i (.long x)) r st else False | _ => False
  | .astore_n i => match sk with | .ref x :: r => bif Nat.blt i ls.length && !(Nat.beq x 130) then K (pc + 1) (mSet1 ls i (.ref x)) r st else False | .null :: r => bif Nat.blt i ls.length then K (pc + 1) (mSet1 ls i .null) r st else False | _ => False
  | .astore i => match sk with | .ref x :: r => bif Nat.blt i ls.length && !(Nat.beq x 130) then K (pc + 2) (mSet1 ls i (.ref x)) r st else False | .null :: r => bif Nat.blt i ls.length then K (pc + 2) (mSet1 ls i .null) r st else False | _ => False
  | .iinc i n => match mGet ls i with | some (.int x) => bif Nat.blt i ls.length then K (pc + 3) (mSet1 ls i (.int (x + Int32.ofInt n))) sk st else False | _ => False
  | .iadd => match sk with | .int y :: .int x :: r => K (pc + 1) ls (.int (x + y) :: r) st | _ => False
  | .isub => match sk with | .int y :: .int x :: r => K (pc + 1) ls (.int (x - y) :: r) st | _ => False
  | .imul => match sk with | .int y :: .int x :: r => K (pc + 1) ls (.int (x * y) :: r) st | _ => False
  | .idiv => match sk with | .int y :: .int x :: r => ¬ y = 0 ∧ K (pc + 1) ls (.int (x / y) :: r) st | _ => False
  | .irem => match sk with | .int y :: .int x :: r => ¬ y = 0 ∧ K (pc + 1) ls (.int (x - x / y * y) :: r) st | _ => False
  | .ineg => match sk with | .int x :: r => K (pc + 1) ls (.int (-x) :: r) st | _ => False
  | .iand => match sk with | .int y :: .int x :: r => K (pc + 1) ls (.int (x &&& y) :: r) st | _ => False
  | .ior => match sk with | .int y :: .int x :: r => K (pc + 1) ls (.int (x ||| y) :: r) st | _ => False
  | .ixor => match sk with | .int y :: .int x :: r => K (pc + 1) ls (.int (x ^^^ y) :: r) st | _ => False
  | .ishl => match sk with | .int y :: .int x :: r => K (pc + 1) ls (.int (x <<< (y &&& 31)) :: r) st | _ => False
  | .ishr => match sk with | .int y :: .int x :: r => K (pc + 1) ls (.int (x >>> (y &&& 31)) :: r) st | _ => False
  | .iushr => match sk with | .int y :: .int x :: r => K (pc + 1) ls (.int (x.toUInt32 >>> (y.toUInt32 &&& Int32.toUInt32 31)).toInt32 :: r) st | _ => False
  | .ladd => match sk with | .long y :: .long x :: r => K (pc + 1) ls (.long (x + y) :: r) st | _ => False
  | .lsub => match sk with | .long y :: .long x :: r => K (pc + 1) ls (.long (x - y) :: r) st | _ => False
  | .land => match sk with | .long y :: .long x :: r => K (pc + 1) ls (.long (x &&& y) :: r) st | _ => False
  | .lor => match sk with | .long y :: .long x :: r => K (pc + 1) ls (.long (x ||| y) :: r) st | _ => False
  | .lshl => match sk with | .int y :: .long x :: r => K (pc + 1) ls (.long (x <<< (y.toInt64 &&& 63)) :: r) st | _ => False
  | .lshr => match sk with | .int y :: .long x :: r => K (pc + 1) ls (.long (x >>> (y.toInt64 &&& 63)) :: r) st | _ => False
  | .lushr => match sk with | .int y :: .long x :: r => K (pc + 1) ls (.long (x.toUInt64 >>> (y.toInt64.toUInt64 &&& Int64.toUInt64 63)).toInt64 :: r) st | _ => False
  | .lcmp => match sk with | .long y :: .long x :: r => K (pc + 1) ls (.int (lg_cmp x y) :: r) st | _ => False
  | .i2l => match sk with | .int x :: r => K (pc + 1) ls (.long x.toInt64 :: r) st | _ => False
  | .l2i => match sk with | .long x :: r => K (pc + 1) ls (.int x.toInt32 :: r) st | _ => False
  | .i2b => match sk with | .int x :: r => K (pc + 1) ls (.int x.toInt8.toInt32 :: r) st | _ => False
  | .i2c => match sk with | .int x :: r => K (pc + 1) ls (.int (x.toUInt32 % 65536).toInt32 :: r) st | _ => False
  | .dup => match sk with | v :: r => bif Nat.beq v.category 1 then K (pc + 1) ls (v :: v :: r) st else False | _ => False
  | .dup2 => match sk with | v :: w :: r => bif Nat.beq v.category 1 && Nat.beq w.category 1 then K (pc + 1) ls (v :: w :: v :: w :: r) st else False | _ => False
  | .pop => match sk with | v :: r => bif Nat.beq v.category 1 then K (pc + 1) ls r st else False | _ => False
  | .goto _ => match e.2.2.1 with | [t] => K t ls sk st | _ => False
  | .ifCond c _ => match e.2.2.1, sk with | [t], .int x :: r => (mIf c x 0 → K t ls r st) ∧ (¬ mIf c x 0 → K (pc + 3) ls r st) | _, _ => False
  | .if_icmp c _ => match e.2.2.1, sk with | [t], .int y :: .int x :: r => (mIf c x y → K t ls r st) ∧ (¬ mIf c x y → K (pc + 3) ls r st) | _, _ => False
  | .ifnull _ => match e.2.2.1, sk with | [_], .ref p :: r => bif Nat.beq p 130 then False else K (pc + 3) ls r st | [t], .null :: r => K t ls r st | _, _ => False
  | .ifnonnull _ => match e.2.2.1, sk with | [t], .ref p :: r => bif Nat.beq p 130 then False else K t ls r st | [_], .null :: r => K (pc + 3) ls r st | _, _ => False
  | .tableswitch d lo hi offs => match sk with
    | .int x :: r => if x.toInt < lo ∨ hi < x.toInt then mJ pc d ∧ K (mTgt pc d) ls r st else match offs[(x.toInt - lo).toNat]? with | some o => mJ pc o ∧ K (mTgt pc o) ls r st | none => False
    | _ => False
  | .lookupswitch d ps => match sk with
    | .int x :: r => (ps.toList.zip (ps.toList.drop 1)).all (fun (a, next) => a.1 < next.1) = true ∧ mJ pc (Op.lookupswitch.offset ps.toList d x.toInt) ∧ K (mTgt pc (Op.lookupswitch.offset ps.toList d x.toInt)) ls r st
    | _ => False
  | .getfield _ => match sk, e.2.2.1 with
    | .ref p :: r, ci :: k :: _ => match lay p with
      | (4, c, fs) => bif Nat.beq c ci then (match fs[k]? with | some f => K (pc + 3) ls (mFld st p k f :: r) st | none => False) else False
      | (5, i, _) => ci = 50 ∧ match k with | 0 => K (pc + 3) ls (.int 0 :: r) st | 1 => K (pc + 3) ls (.ref (110 + i) :: r) st | _ => False
      | _ => False
    | _, _ => False
  | .putfield _ => match sk, e.2.2.1 with
    | v :: .ref p :: r, ci :: k :: _ => match lay p with
      | (4, c, fs) => bif Nat.beq c ci then (match fs[k]?, v with
        | some (0, _), .int x => K (pc + 3) ls r (mU st.1 p k x, st.2)
        | some (5, _), .int x => (x = 0 ∨ x = 1) ∧ K (pc + 3) ls r (mU st.1 p k x, st.2)
        | some (1, _), .long x => K (pc + 3) ls r (st.1, mUL st.2 p k x)
        | some (3, _), .ref q => bif Nat.blt q 86 then K (pc + 3) ls r (mU st.1 p k (nI q), st.2) else False
        | _, _ => False) else False
      | _ => False
    | _, _ => False
  | .getstatic _ => match e.2.2.1 with
    | 0 :: _ => K (pc + 3) ls (.int 1 :: sk) st
    | 1 :: _ => K (pc + 3) ls (.ref 130 :: sk) st
    | _ => False
  | .iaload => match sk with
    | .int i :: .ref a :: r => match lay a with
      | (0, n, _) => vp_in i n ∧ K (pc + 1) ls (.int (st.1 a i.toNatClampNeg) :: r) st
      | (7, _, _) => vp_in i (S.1 - 1) ∧ K (pc + 1) ls (.int (S.2 i.toNatClampNeg) :: r) st
      | _ => False
    | _ => False
  | .baload => match sk with
    | .int i :: .ref a :: r => match lay a with
      | (1, n, _) => vp_in i n ∧ K (pc + 1) ls (.int (st.1 a i.toNatClampNeg) :: r) st
      | (2, n, _) => vp_in i n ∧ K (pc + 1) ls (.int (st.1 a i.toNatClampNeg) :: r) st
      | (6, j, _) => vp_in i (lenK.getD j 0) ∧ K (pc + 1) ls (.int ((bytK.getD j []).getD i.toNatClampNeg 0) :: r) st
      | _ => False
    | _ => False
  | .aaload => match sk with
    | .int i :: .ref a :: r => match lay a with
      | (3, n, fs) => vp_in i n ∧ match fs[i.toNatClampNeg]? with | some f => K (pc + 1) ls (.ref f.2 :: r) st | none => False
      | _ => False
    | _ => False
  | .iastore => match sk with
    | .int x :: .int i :: .ref a :: r => match lay a with
      | (0, n, _) => vp_in i n ∧ K (pc + 1) ls r (mU st.1 a i.toNatClampNeg x, st.2)
      | _ => False
    | _ => False
  | .bastore => match sk with
    | .int x :: .int i :: .ref a :: r => match lay a with
      | (1, n, _) => vp_in i n ∧ K (pc + 1) ls r (mU st.1 a i.toNatClampNeg (vp_nar .byte x), st.2)
      | (2, n, _) => vp_in i n ∧ K (pc + 1) ls r (mU st.1 a i.toNatClampNeg (vp_nar .boolean x), st.2)
      | _ => False
    | _ => False
  | .arraylength => match sk with
    | .ref a :: r => match lay a with
      | (0, n, _) => K (pc + 1) ls (.int (Int32.ofNat n) :: r) st
      | (1, n, _) => K (pc + 1) ls (.int (Int32.ofNat n) :: r) st
      | (2, n, _) => K (pc + 1) ls (.int (Int32.ofNat n) :: r) st
      | (3, n, _) => K (pc + 1) ls (.int (Int32.ofNat n) :: r) st
      | (6, j, _) => K (pc + 1) ls (.int (Int32.ofNat (lenK.getD j 0)) :: r) st
      | (7, _, _) => 0 < S.1 ∧ K (pc + 1) ls (.int (Int32.ofNat (S.1 - 1)) :: r) st
      | _ => False
    | _ => False
  | .invokestatic _ => match e.2.2.1 with
    | z :: n :: _ => n ≤ sk.length ∧ mCat (sk.drop n) ≤ 8 ∧ ∃ (v : Option Value) (st1 : mSt), C z (sk.take n).reverse st v st1 ∧ K (pc + 3) ls (v.toList ++ sk.drop n) st1
    | _ => False
  | .invokevirtual _ => match e.2.2.1 with
    | z :: n :: c :: _ => n + 1 ≤ sk.length ∧ mCat (sk.drop (n + 1)) ≤ 8 ∧ mRecv c (sk.getD n .null) ∧ ∃ (v : Option Value) (st1 : mSt), C z (sk.take (n + 1)).reverse st v st1 ∧ K (pc + 3) ls (v.toList ++ sk.drop (n + 1)) st1
    | _ => False
  | .ireturn => match sk with | [.int v] => mRet rt (some (.int v)) ∧ Q (some (.int v)) st | _ => False
  | .lreturn => match sk with | [.long v] => mRet rt (some (.long v)) ∧ Q (some (.long v)) st | _ => False
  | .areturn => match sk with | [.ref a] => mRet rt (some (.ref a)) ∧ Q (some (.ref a)) st | [.null] => mRet rt (some .null) ∧ Q (some .null) st | _ => False
  | .return_ => match sk with | [] => mRet rt none ∧ Q none st | _ => False
  | _ => False
/-- a run of at most n steps that comes to its end with Q -/
def mOk (C : Nat → List Value → mSt → Option Value → mSt → Prop) (S : Nat × (Nat → Int32)) (P : Nat → Option mE) (rt : Option FieldType) (Q : Option Value → mSt → Prop) : Nat → Nat → mLs → List Value → mSt → Prop
  | 0 => fun _ _ _ _ => False
  | n + 1 => fun pc ls sk st => match P pc with
    | none => False
    | some e => mStep C S rt Q (mOk C S P rt Q n) e pc ls sk st
def mW (C : Nat → List Value → mSt → Option Value → mSt → Prop) (S : Nat × (Nat → Int32)) (P : Nat → Option mE) (rt : Option FieldType) (Q : Option Value → mSt → Prop) (pc : Nat) (ls : mLs) (sk : List Value) (st : mSt) : Prop := ∃ n, mOk C S P rt Q n pc ls sk st
/-- the locals at a method's entry -/
def mArgs : List Value → mLs
  | [] => []
  | v :: l => if v.category = 2 then some v :: none :: mArgs l else some v :: mArgs l
def mEntry (args : List Value) (n : Nat) : mLs := mArgs args ++ List.replicate (n - (mArgs args).length) none
/-- code by its places -/
def mAtL : List (Nat × mE) → Nat → Option mE
  | [], _ => none
  | (k, e) :: l, pc => bif Nat.beq k pc then some e else mAtL l pc
/-- a call, at most d deep: the method z of the table answers v and leaves st1 -/
def mMC (T : List (MethodName × ByteArray × Nat × Option FieldType × Nat × Nat × Nat × List (Nat × mE))) : Nat → Nat → List Value → mSt → Option Value → mSt → Prop
  | 0 => fun _ _ _ _ _ => False
  | d + 1 => fun z args st v st1 => ∃ q, T[z]? = some q ∧ (mArgs args).length ≤ q.2.2.1 ∧ mW (mMC T d) (0, fun _ => 0) (mAtL q.2.2.2.2.2.2.2) q.2.2.2.1 (fun r s => r = v ∧ s = st1) 0 (mEntry args q.2.2.1) [] st
end
section
/-! THE CODE of the small machine: a list for each method (by program out of the printed rows) -/
def P_J6_bitCount_0f7a4 : List (Nat × mE) := [(0, .iload_n 0, 1, [], 0), (1, .iload_n 0, 1, [], 0), (2, .iconst 1, 1, [], 0), (3, .iushr, 1, [], 0), (4, .ldc_w 265, 3, [732], 1431655765), (7, .iand, 1, [], 0), (8, .isub, 1, [], 0), (9, .istore_n 0, 1, [], 0), (10, .iload_n 0, 1, [], 0), (11, .ldc_w 266, 3, [733], 858993459), (14, .iand, 1, [], 0), (15, .iload_n 0, 1, [], 0), (16, .iconst 2, 1, [], 0), (17, .iushr, 1, [], 0), (18, .ldc_w 266, 3, [733], 858993459), (21, .iand, 1, [], 0), (22, .iadd, 1, [], 0), (23, .istore_n 0, 1, [], 0), (24, .iload_n 0, 1, [], 0), (25, .iload_n 0, 1, [], 0), (26, .iconst 4, 1, [], 0), (27, .iushr, 1, [], 0), (28, .iadd, 1, [], 0), (29, .ldc_w 267, 3, [734], 252645135), (32, .iand, 1, [], 0), (33, .istore_n 0, 1, [], 0), (34, .iload_n 0, 1, [], 0), (35, .iload_n 0, 1, [], 0), (36, .bipush 8, 2, [], 0), (38, .iushr, 1, [], 0), (39, .iadd, 1, [], 0), (40, .istore_n 0, 1, [], 0), (41, .iload_n 0, 1, [], 0), (42, .iload_n 0, 1, [], 0), (43, .bipush 16, 2, [], 0), (45, .iushr, 1, [], 0), (46, .iadd, 1, [], 0), (47, .istore_n 0, 1, [], 0), (48, .iload_n 0, 1, [], 0), (49, .bipush 63, 2, [], 0), (51, .iand, 1, [], 0), (52, .ireturn, 1, [], 0)]
def P_J13_bitCount_95d88 : List (Nat × mE) := [(0, .lload_n 0, 1, [], 0), (1, .lload_n 0, 1, [], 0), (2, .iconst 1, 1, [], 0), (3, .lushr, 1, [], 0), (4, .ldc2_w 314, 3, [934], 6148914691236517205), (7, .land, 1, [], 0), (8, .lsub, 1, [], 0), (9, .lstore_n 0, 1, [], 0), (10, .lload_n 0, 1, [], 0), (11, .ldc2_w 316, 3, [935], 3689348814741910323), (14, .land, 1, [], 0), (15, .lload_n 0, 1, [], 0), (16, .iconst 2, 1, [], 0), (17, .lushr, 1, [], 0), (18, .ldc2_w 316, 3, [935], 3689348814741910323), (21, .land, 1, [], 0), (22, .ladd, 1, [], 0), (23, .lstore_n 0, 1, [], 0), (24, .lload_n 0, 1, [], 0), (25, .lload_n 0, 1, [], 0), (26, .iconst 4, 1, [], 0), (27, .lushr, 1, [], 0), (28, .ladd, 1, [], 0), (29, .ldc2_w 318, 3, [936], 1085102592571150095), (32, .land, 1, [], 0), (33, .lstore_n 0, 1, [], 0), (34, .lload_n 0, 1, [], 0), (35, .lload_n 0, 1, [], 0), (36, .bipush 8, 2, [], 0), (38, .lushr, 1, [], 0), (39, .ladd, 1, [], 0), (40, .lstore_n 0, 1, [], 0), (41, .lload_n 0, 1, [], 0), (42, .lload_n 0, 1, [], 0), (43, .bipush 16, 2, [], 0), (45, .lushr, 1, [], 0), (46, .ladd, 1, [], 0), (47, .lstore_n 0, 1, [], 0), (48, .lload_n 0, 1, [], 0), (49, .lload_n 0, 1, [], 0), (50, .bipush 32, 2, [], 0), (52, .lushr, 1, [], 0), (53, .ladd, 1, [], 0), (54, .lstore_n 0, 1, [], 0), (55, .lload_n 0, 1, [], 0), (56, .l2i, 1, [], 0), (57, .bipush 127, 2, [], 0), (59, .iand, 1, [], 0), (60, .ireturn, 1, [], 0)]
def P_J9_floorMod_7cf53 : List (Nat × mE) := [(0, .iload_n 0, 1, [], 0), (1, .iload_n 1, 1, [], 0), (2, .irem, 1, [], 0), (3, .istore_n 2, 1, [], 0), (4, .iload_n 0, 1, [], 0), (5, .iload_n 1, 1, [], 0), (6, .ixor, 1, [], 0), (7, .ifCond .ge 11, 3, [18], 0), (10, .iload_n 2, 1, [], 0), (11, .ifCond .eq 7, 3, [18], 0), (14, .iload_n 2, 1, [], 0), (15, .iload_n 1, 1, [], 0), (16, .iadd, 1, [], 0), (17, .ireturn, 1, [], 0), (18, .iload_n 2, 1, [], 0), (19, .ireturn, 1, [], 0)]
def P_J9_max_7cf53 : List (Nat × mE) := [(0, .iload_n 0, 1, [], 0), (1, .iload_n 1, 1, [], 0), (2, .if_icmp .lt 7, 3, [9], 0), (5, .iload_n 0, 1, [], 0), (6, .goto 4, 3, [10], 0), (9, .iload_n 1, 1, [], 0), (10, .ireturn, 1, [], 0)]
def P_J9_min_7cf53 : List (Nat × mE) := [(0, .iload_n 0, 1, [], 0), (1, .iload_n 1, 1, [], 0), (2, .if_icmp .gt 7, 3, [9], 0), (5, .iload_n 0, 1, [], 0), (6, .goto 4, 3, [10], 0), (9, .iload_n 1, 1, [], 0), (10, .ireturn, 1, [], 0)]
def P_J0_length_8abf5 : List (Nat × mE) := [(0, .aload_n 0, 1, [], 0), (1, .getfield 9, 3, [50, 1, 1380], 0), (4, .arraylength, 1, [], 0), (5, .aload_n 0, 1, [], 0), (6, .invokevirtual 335, 3, [6, 0, 50, 493, 494, 495], 0), (9, .ishr, 1, [], 0), (10, .ireturn, 1, [], 0)]
def P_J0_coder_7d493 : List (Nat × mE) := [(0, .getstatic 38, 3, [0, 497], 1), (3, .ifCond .eq 10, 3, [13], 0), (6, .aload_n 0, 1, [], 0), (7, .getfield 15, 3, [50, 0, 1381], 0), (10, .goto 4, 3, [14], 0), (13, .iconst 1, 1, [], 0), (14, .ireturn, 1, [], 0)]
def P_J0_charAt_5068e : List (Nat × mE) := [(0, .aload_n 0, 1, [], 0), (1, .invokevirtual 492, 3, [8, 0, 50, 503, 504, 505], 0), (4, .ifCond .eq 12, 3, [16], 0), (7, .aload_n 0, 1, [], 0), (8, .getfield 9, 3, [50, 1, 1380], 0), (11, .iload_n 1, 1, [], 0), (12, .invokestatic 495, 3, [10, 2, 0, 507, 508], 0), (15, .ireturn, 1, [], 0), (16, .aload_n 0, 1, [], 0), (17, .getfield 9, 3, [50, 1, 1380], 0), (20, .iload_n 1, 1, [], 0), (21, .invokestatic 498, 3, [], 0), (24, .ireturn, 1, [], 0)]
def P_J0_isLatin1_aae02 : List (Nat × mE) := [(0, .getstatic 38, 3, [0, 497], 1), (3, .ifCond .eq 14, 3, [17], 0), (6, .aload_n 0, 1, [], 0), (7, .getfield 15, 3, [50, 0, 1381], 0), (10, .ifCond .ne 7, 3, [17], 0), (13, .iconst 1, 1, [], 0), (14, .goto 4, 3, [18], 0), (17, .iconst 0, 1, [], 0), (18, .ireturn, 1, [], 0)]
def P_J0_checkIndex_df160 : List (Nat × mE) := [(0, .iload_n 0, 1, [], 0), (1, .iload_n 1, 1, [], 0), (2, .getstatic 1053, 3, [1, 513], 0), (5, .invokestatic 1059, 3, [11, 3, 0, 515, 516], 0), (8, .pop, 1, [], 0), (9, .return_, 1, [], 0)]
def P_J1_charAt_3b067 : List (Nat × mE) := [(0, .iload_n 1, 1, [], 0), (1, .aload_n 0, 1, [], 0), (2, .arraylength, 1, [], 0), (3, .invokestatic 9, 3, [9, 2, 0, 510, 511], 0), (6, .aload_n 0, 1, [], 0), (7, .iload_n 1, 1, [], 0), (8, .baload, 1, [], 0), (9, .sipush 255, 3, [], 0), (12, .iand, 1, [], 0), (13, .i2c, 1, [], 0), (14, .ireturn, 1, [], 0)]
def P_J3_checkIndex_8e157 : List (Nat × mE) := [(0, .iload_n 0, 1, [], 0), (1, .ifCond .lt 8, 3, [9], 0), (4, .iload_n 0, 1, [], 0), (5, .iload_n 1, 1, [], 0), (6, .if_icmp .lt 10, 3, [16], 0), (9, .aload_n 2, 1, [], 0), (10, .iload_n 0, 1, [], 0), (11, .iload_n 1, 1, [], 0), (12, .invokestatic 95, 3, [], 0), (15, .athrow, 1, [], 0), (16, .iload_n 0, 1, [], 0), (17, .ireturn, 1, [], 0)]
def P_X0_work : List (Nat × mE) := [(0, .aload_n 0, 1, [], 0), (1, .aload_n 1, 1, [], 0), (2, .aload_n 2, 1, [], 0), (3, .invokevirtual 24, 3, [13, 2, 0, 714, 716, 15], 0), (6, .lstore_n 3, 1, [], 0), (7, .lload_n 3, 1, [], 0), (8, .aload_n 0, 1, [], 0), (9, .getfield 17, 3, [0, 3, 239], 0), (12, .lcmp, 1, [], 0), (13, .ifCond .ne 4, 3, [17], 0), (16, .return_, 1, [], 0), (17, .aload_n 0, 1, [], 0), (18, .lload_n 3, 1, [], 0), (19, .putfield 17, 3, [0, 3, 239], 0), (22, .aload_n 0, 1, [], 0), (23, .aload_n 0, 1, [], 0), (24, .invokevirtual 28, 3, [14, 0, 0, 721, 723, 16], 0), (27, .putfield 32, 3, [0, 0, 234], 0), (30, .aload_n 0, 1, [], 0), (31, .getfield 32, 3, [0, 0, 234], 0), (34, .ifCond .le 10, 3, [44], 0), (37, .aload_n 0, 1, [], 0), (38, .iconst 0, 1, [], 0), (39, .iconst 0, 1, [], 0), (40, .invokevirtual 36, 3, [17, 2, 0, 739, 741, 19], 0), (43, .pop, 1, [], 0), (44, .return_, 1, [], 0)]
def P_X0_look : List (Nat × mE) := [(0, .aload_n 0, 1, [], 0), (1, .aload_n 1, 1, [], 0), (2, .getfield 40, 3, [1, 0, 132], 0), (5, .bipush 6, 2, [], 0), (7, .invokestatic 45, 3, [4, 2, 0, 718, 684], 0), (10, .putfield 51, 3, [0, 2, 238], 0), (13, .aload_n 0, 1, [], 0), (14, .getfield 51, 3, [0, 2, 238], 0), (17, .i2l, 1, [], 0), (18, .lstore_n 3, 1, [], 0), (19, .iconst 0, 1, [], 0), (20, .istore 5, 2, [], 0), (22, .iload 5, 2, [], 0), (24, .aload_n 0, 1, [], 0), (25, .getfield 21, 3, [0, 4, 240], 0), (28, .arraylength, 1, [], 0), (29, .if_icmp .ge 78, 3, [107], 0), (32, .iconst 0, 1, [], 0), (33, .istore 6, 2, [], 0), (35, .iconst 0, 1, [], 0), (36, .istore 7, 2, [], 0), (38, .iload 7, 2, [], 0), (40, .aload_n 0, 1, [], 0), (41, .getfield 51, 3, [0, 2, 238], 0), (44, .if_icmp .ge 39, 3, [83], 0), (47, .aload_n 1, 1, [], 0), (48, .iload 5, 2, [], 0), (50, .invokevirtual 52, 3, [21, 1, 1, 719, 620, 621], 0), (53, .ifCond .eq 24, 3, [77], 0), (56, .aload_n 2, 1, [], 0), (57, .aload_n 1, 1, [], 0), (58, .iload 7, 2, [], 0), (60, .iload 5, 2, [], 0), (62, .invokevirtual 56, 3, [47, 3, 5, 720, 640, 641], 0), (65, .ifCond .eq 12, 3, [77], 0), (68, .iload 6, 2, [], 0), (70, .iconst 1, 1, [], 0), (71, .iload 7, 2, [], 0), (73, .ishl, 1, [], 0), (74, .ior, 1, [], 0), (75, .istore 6, 2, [], 0), (77, .iinc 7 1, 3, [], 0), (80, .goto (-42), 3, [38], 0), (83, .aload_n 0, 1, [], 0), (84, .getfield 21, 3, [0, 4, 240], 0), (87, .iload 5, 2, [], 0), (89, .iload 6, 2, [], 0), (91, .iastore, 1, [], 0), (92, .lload_n 3, 1, [], 0), (93, .bipush 6, 2, [], 0), (95, .lshl, 1, [], 0), (96, .iload 6, 2, [], 0), (98, .i2l, 1, [], 0), (99, .lor, 1, [], 0), (100, .lstore_n 3, 1, [], 0), (101, .iinc 5 1, 3, [], 0), (104, .goto (-82), 3, [22], 0), (107, .lload_n 3, 1, [], 0), (108, .lreturn, 1, [], 0)]
def P_X0_findRounds : List (Nat × mE) := [(0, .iconst 0, 1, [], 0), (1, .istore_n 1, 1, [], 0), (2, .iconst 1, 1, [], 0), (3, .istore_n 2, 1, [], 0), (4, .iload_n 2, 1, [], 0), (5, .bipush 8, 2, [], 0), (7, .if_icmp .gt 31, 3, [38], 0), (10, .aload_n 0, 1, [], 0), (11, .getfield 51, 3, [0, 2, 238], 0), (14, .ifCond .le 24, 3, [38], 0), (17, .aload_n 0, 1, [], 0), (18, .iload_n 2, 1, [], 0), (19, .iconst 0, 1, [], 0), (20, .iconst 0, 1, [], 0), (21, .invokevirtual 62, 3, [15, 3, 0, 725, 727, 17], 0), (24, .ifCond .ne 6, 3, [30], 0), (27, .goto 11, 3, [38], 0), (30, .iload_n 2, 1, [], 0), (31, .istore_n 1, 1, [], 0), (32, .iinc 2 1, 3, [], 0), (35, .goto (-31), 3, [4], 0), (38, .iload_n 1, 1, [], 0), (39, .ireturn, 1, [], 0)]
def P_X0_fits : List (Nat × mE) := [(0, .iconst 1, 1, [], 0), (1, .istore 4, 2, [], 0), (3, .iload 4, 2, [], 0), (5, .iconst 1, 1, [], 0), (6, .aload_n 0, 1, [], 0), (7, .getfield 51, 3, [0, 2, 238], 0), (10, .ishl, 1, [], 0), (11, .if_icmp .ge 41, 3, [52], 0), (14, .iload_n 1, 1, [], 0), (15, .iload 4, 2, [], 0), (17, .invokestatic 66, 3, [0, 1, 0, 729, 730], 0), (20, .imul, 1, [], 0), (21, .iload 4, 2, [], 0), (23, .iload_n 2, 1, [], 0), (24, .iand, 1, [], 0), (25, .invokestatic 66, 3, [0, 1, 0, 729, 730], 0), (28, .isub, 1, [], 0), (29, .istore 5, 2, [], 0), (31, .iload 5, 2, [], 0), (33, .aload_n 0, 1, [], 0), (34, .iload 4, 2, [], 0), (36, .iload_n 1, 1, [], 0), (37, .iload_n 3, 1, [], 0), (38, .invokevirtual 72, 3, [16, 3, 0, 735, 737, 18], 0), (41, .if_icmp .le 5, 3, [46], 0), (44, .iconst 0, 1, [], 0), (45, .ireturn, 1, [], 0), (46, .iinc 4 1, 3, [], 0), (49, .goto (-46), 3, [3], 0), (52, .iconst 1, 1, [], 0), (53, .ireturn, 1, [], 0)]
def P_X0_bearable : List (Nat × mE) := [(0, .iconst 0, 1, [], 0), (1, .istore 4, 2, [], 0), (3, .iconst 0, 1, [], 0), (4, .istore 5, 2, [], 0), (6, .iload 5, 2, [], 0), (8, .aload_n 0, 1, [], 0), (9, .getfield 21, 3, [0, 4, 240], 0), (12, .arraylength, 1, [], 0), (13, .if_icmp .ge 41, 3, [54], 0), (16, .iload_n 2, 1, [], 0), (17, .iload_n 3, 1, [], 0), (18, .iload 5, 2, [], 0), (20, .iushr, 1, [], 0), (21, .iconst 1, 1, [], 0), (22, .iand, 1, [], 0), (23, .isub, 1, [], 0), (24, .istore 6, 2, [], 0), (26, .iload 4, 2, [], 0), (28, .iload 6, 2, [], 0), (30, .aload_n 0, 1, [], 0), (31, .getfield 21, 3, [0, 4, 240], 0), (34, .iload 5, 2, [], 0), (36, .iaload, 1, [], 0), (37, .iload_n 1, 1, [], 0), (38, .iand, 1, [], 0), (39, .invokestatic 66, 3, [0, 1, 0, 729, 730], 0), (42, .invokestatic 45, 3, [4, 2, 0, 718, 684], 0), (45, .iadd, 1, [], 0), (46, .istore 4, 2, [], 0), (48, .iinc 5 1, 3, [], 0), (51, .goto (-45), 3, [6], 0), (54, .iload 4, 2, [], 0), (56, .ireturn, 1, [], 0)]
def P_X0_place : List (Nat × mE) := [(0, .iload_n 1, 1, [], 0), (1, .aload_n 0, 1, [], 0), (2, .getfield 51, 3, [0, 2, 238], 0), (5, .if_icmp .lt 20, 3, [25], 0), (8, .aload_n 0, 1, [], 0), (9, .aload_n 0, 1, [], 0), (10, .getfield 32, 3, [0, 0, 234], 0), (13, .iconst 1, 1, [], 0), (14, .iload_n 1, 1, [], 0), (15, .ishl, 1, [], 0), (16, .iconst 1, 1, [], 0), (17, .isub, 1, [], 0), (18, .sipush 255, 3, [], 0), (21, .invokevirtual 62, 3, [15, 3, 0, 725, 727, 17], 0), (24, .ireturn, 1, [], 0), (25, .iconst 0, 1, [], 0), (26, .istore_n 3, 1, [], 0), (27, .iload_n 3, 1, [], 0), (28, .aload_n 0, 1, [], 0), (29, .getfield 21, 3, [0, 4, 240], 0), (32, .arraylength, 1, [], 0), (33, .if_icmp .ge 46, 3, [79], 0), (36, .aload_n 0, 1, [], 0), (37, .getfield 21, 3, [0, 4, 240], 0), (40, .iload_n 3, 1, [], 0), (41, .iaload, 1, [], 0), (42, .iload_n 1, 1, [], 0), (43, .invokestatic 76, 3, [122, 2, 1, 743, 624], 0), (46, .ifCond .eq 27, 3, [73], 0), (49, .iload_n 2, 1, [], 0), (50, .iload_n 3, 1, [], 0), (51, .invokestatic 76, 3, [122, 2, 1, 743, 624], 0), (54, .ifCond .ne 19, 3, [73], 0), (57, .aload_n 0, 1, [], 0), (58, .iload_n 1, 1, [], 0), (59, .iload_n 3, 1, [], 0), (60, .iload_n 2, 1, [], 0), (61, .iconst 1, 1, [], 0), (62, .iload_n 3, 1, [], 0), (63, .ishl, 1, [], 0), (64, .ior, 1, [], 0), (65, .invokevirtual 79, 3, [18, 3, 0, 744, 746, 20], 0), (68, .ifCond .eq 5, 3, [73], 0), (71, .iconst 1, 1, [], 0), (72, .ireturn, 1, [], 0), (73, .iinc 3 1, 3, [], 0), (76, .goto (-49), 3, [27], 0), (79, .iconst 0, 1, [], 0), (80, .ireturn, 1, [], 0)]
def P_X0_placeWith : List (Nat × mE) := [(0, .aload_n 0, 1, [], 0), (1, .getfield 21, 3, [0, 4, 240], 0), (4, .iload_n 2, 1, [], 0), (5, .invokestatic 82, 3, [124, 2, 1, 748, 460], 0), (8, .istore 4, 2, [], 0), (10, .aload_n 0, 1, [], 0), (11, .getfield 21, 3, [0, 4, 240], 0), (14, .iload_n 2, 1, [], 0), (15, .iload 4, 2, [], 0), (17, .iconst 1, 1, [], 0), (18, .iload_n 1, 1, [], 0), (19, .ishl, 1, [], 0), (20, .iconst (-1), 1, [], 0), (21, .ixor, 1, [], 0), (22, .iand, 1, [], 0), (23, .invokestatic 86, 3, [125, 3, 1, 749, 433], 0), (26, .aload_n 0, 1, [], 0), (27, .getfield 9, 3, [0, 1, 236], 0), (30, .iload_n 1, 1, [], 0), (31, .iload_n 2, 1, [], 0), (32, .invokestatic 86, 3, [125, 3, 1, 749, 433], 0), (35, .aload_n 0, 1, [], 0), (36, .aload_n 0, 1, [], 0), (37, .getfield 32, 3, [0, 0, 234], 0), (40, .iconst 2, 1, [], 0), (41, .iload_n 1, 1, [], 0), (42, .ishl, 1, [], 0), (43, .iconst 1, 1, [], 0), (44, .isub, 1, [], 0), (45, .iload_n 3, 1, [], 0), (46, .invokevirtual 62, 3, [15, 3, 0, 725, 727, 17], 0), (49, .ifCond .eq 16, 3, [65], 0), (52, .aload_n 0, 1, [], 0), (53, .iload_n 1, 1, [], 0), (54, .iconst 1, 1, [], 0), (55, .iadd, 1, [], 0), (56, .iload_n 3, 1, [], 0), (57, .invokevirtual 36, 3, [17, 2, 0, 739, 741, 19], 0), (60, .ifCond .eq 5, 3, [65], 0), (63, .iconst 1, 1, [], 0), (64, .ireturn, 1, [], 0), (65, .aload_n 0, 1, [], 0), (66, .getfield 21, 3, [0, 4, 240], 0), (69, .iload_n 2, 1, [], 0), (70, .iload 4, 2, [], 0), (72, .invokestatic 86, 3, [125, 3, 1, 749, 433], 0), (75, .iconst 0, 1, [], 0), (76, .ireturn, 1, [], 0)]
def P_X1_empty : List (Nat × mE) := [(0, .aload_n 0, 1, [], 0), (1, .iconst 0, 1, [], 0), (2, .putfield 33, 3, [1, 0, 130], 0), (5, .aload_n 0, 1, [], 0), (6, .iconst 0, 1, [], 0), (7, .putfield 37, 3, [1, 1, 136], 0), (10, .aload_n 0, 1, [], 0), (11, .iconst 0, 1, [], 0), (12, .putfield 40, 3, [1, 2, 140], 0), (15, .return_, 1, [], 0)]
def P_X1_hasDigger : List (Nat × mE) := [(0, .iload_n 1, 1, [], 0), (1, .ifCond .lt 15, 3, [16], 0), (4, .iload_n 1, 1, [], 0), (5, .aload_n 0, 1, [], 0), (6, .getfield 33, 3, [1, 0, 130], 0), (9, .if_icmp .ge 7, 3, [16], 0), (12, .iconst 1, 1, [], 0), (13, .goto 4, 3, [17], 0), (16, .iconst 0, 1, [], 0), (17, .ireturn, 1, [], 0)]
def P_X1_hasSpade : List (Nat × mE) := [(0, .iload_n 1, 1, [], 0), (1, .ifCond .lt 15, 3, [16], 0), (4, .iload_n 1, 1, [], 0), (5, .aload_n 0, 1, [], 0), (6, .getfield 37, 3, [1, 1, 136], 0), (9, .if_icmp .ge 7, 3, [16], 0), (12, .iconst 1, 1, [], 0), (13, .goto 4, 3, [17], 0), (16, .iconst 0, 1, [], 0), (17, .ireturn, 1, [], 0)]
def P_X1_hasYard : List (Nat × mE) := [(0, .iload_n 1, 1, [], 0), (1, .ifCond .lt 15, 3, [16], 0), (4, .iload_n 1, 1, [], 0), (5, .aload_n 0, 1, [], 0), (6, .getfield 40, 3, [1, 2, 140], 0), (9, .if_icmp .ge 7, 3, [16], 0), (12, .iconst 1, 1, [], 0), (13, .goto 4, 3, [17], 0), (16, .iconst 0, 1, [], 0), (17, .ireturn, 1, [], 0)]
def P_X1_addDigger : List (Nat × mE) := [(0, .aload_n 0, 1, [], 0), (1, .getfield 9, 3, [1, 3, 143], 0), (4, .aload_n 0, 1, [], 0), (5, .getfield 33, 3, [1, 0, 130], 0), (8, .iload_n 1, 1, [], 0), (9, .invokestatic 43, 3, [125, 3, 1, 574, 433], 0), (12, .aload_n 0, 1, [], 0), (13, .getfield 15, 3, [1, 4, 146], 0), (16, .aload_n 0, 1, [], 0), (17, .getfield 33, 3, [1, 0, 130], 0), (20, .iload_n 2, 1, [], 0), (21, .invokestatic 43, 3, [125, 3, 1, 574, 433], 0), (24, .aload_n 0, 1, [], 0), (25, .getfield 18, 3, [1, 5, 150], 0), (28, .aload_n 0, 1, [], 0), (29, .getfield 33, 3, [1, 0, 130], 0), (32, .iload_n 3, 1, [], 0), (33, .invokestatic 47, 3, [123, 1, 1, 575, 576], 0), (36, .invokestatic 43, 3, [125, 3, 1, 574, 433], 0), (39, .aload_n 0, 1, [], 0), (40, .dup, 1, [], 0), (41, .getfield 33, 3, [1, 0, 130], 0), (44, .iconst 1, 1, [], 0), (45, .iadd, 1, [], 0), (46, .putfield 33, 3, [1, 0, 130], 0), (49, .return_, 1, [], 0)]
def P_X1_addSpade : List (Nat × mE) := [(0, .aload_n 0, 1, [], 0), (1, .getfield 21, 3, [1, 6, 152], 0), (4, .aload_n 0, 1, [], 0), (5, .getfield 37, 3, [1, 1, 136], 0), (8, .iload_n 1, 1, [], 0), (9, .invokestatic 43, 3, [125, 3, 1, 574, 433], 0), (12, .aload_n 0, 1, [], 0), (13, .getfield 24, 3, [1, 7, 154], 0), (16, .aload_n 0, 1, [], 0), (17, .getfield 37, 3, [1, 1, 136], 0), (20, .iload_n 2, 1, [], 0), (21, .invokestatic 43, 3, [125, 3, 1, 574, 433], 0), (24, .aload_n 0, 1, [], 0), (25, .dup, 1, [], 0), (26, .getfield 37, 3, [1, 1, 136], 0), (29, .iconst 1, 1, [], 0), (30, .iadd, 1, [], 0), (31, .putfield 37, 3, [1, 1, 136], 0), (34, .return_, 1, [], 0)]
def P_X1_addYard : List (Nat × mE) := [(0, .aload_n 0, 1, [], 0), (1, .getfield 27, 3, [1, 8, 156], 0), (4, .aload_n 0, 1, [], 0), (5, .getfield 40, 3, [1, 2, 140], 0), (8, .iload_n 1, 1, [], 0), (9, .invokestatic 43, 3, [125, 3, 1, 574, 433], 0), (12, .aload_n 0, 1, [], 0), (13, .getfield 30, 3, [1, 9, 159], 0), (16, .aload_n 0, 1, [], 0), (17, .getfield 40, 3, [1, 2, 140], 0), (20, .iload_n 2, 1, [], 0), (21, .invokestatic 43, 3, [125, 3, 1, 574, 433], 0), (24, .aload_n 0, 1, [], 0), (25, .dup, 1, [], 0), (26, .getfield 40, 3, [1, 2, 140], 0), (29, .iconst 1, 1, [], 0), (30, .iadd, 1, [], 0), (31, .putfield 40, 3, [1, 2, 140], 0), (34, .return_, 1, [], 0)]
def P_X1_suits : List (Nat × mE) := [(0, .aload_n 0, 1, [], 0), (1, .getfield 24, 3, [1, 7, 154], 0), (4, .iload_n 2, 1, [], 0), (5, .invokestatic 51, 3, [124, 2, 1, 647, 460], 0), (8, .istore_n 3, 1, [], 0), (9, .iload_n 3, 1, [], 0), (10, .ifCond .eq 17, 3, [27], 0), (13, .iload_n 3, 1, [], 0), (14, .aload_n 0, 1, [], 0), (15, .getfield 18, 3, [1, 5, 150], 0), (18, .iload_n 1, 1, [], 0), (19, .invokestatic 51, 3, [124, 2, 1, 647, 460], 0), (22, .iconst 1, 1, [], 0), (23, .iadd, 1, [], 0), (24, .if_icmp .ne 7, 3, [31], 0), (27, .iconst 1, 1, [], 0), (28, .goto 4, 3, [32], 0), (31, .iconst 0, 1, [], 0), (32, .ireturn, 1, [], 0)]
def P_X1_product : List (Nat × mE) := [(0, .aload_n 0, 1, [], 0), (1, .getfield 9, 3, [1, 3, 143], 0), (4, .iload_n 1, 1, [], 0), (5, .invokestatic 51, 3, [124, 2, 1, 647, 460], 0), (8, .aload_n 0, 1, [], 0), (9, .getfield 21, 3, [1, 6, 152], 0), (12, .iload_n 2, 1, [], 0), (13, .invokestatic 51, 3, [124, 2, 1, 647, 460], 0), (16, .imul, 1, [], 0), (17, .ireturn, 1, [], 0)]
def P_X1_clodsOf : List (Nat × mE) := [(0, .aload_n 0, 1, [], 0), (1, .getfield 27, 3, [1, 8, 156], 0), (4, .iload_n 1, 1, [], 0), (5, .invokestatic 51, 3, [124, 2, 1, 647, 460], 0), (8, .aload_n 0, 1, [], 0), (9, .getfield 30, 3, [1, 9, 159], 0), (12, .iload_n 1, 1, [], 0), (13, .invokestatic 51, 3, [124, 2, 1, 647, 460], 0), (16, .imul, 1, [], 0), (17, .ireturn, 1, [], 0)]
def P_X1_allClods : List (Nat × mE) := [(0, .iconst 0, 1, [], 0), (1, .istore_n 1, 1, [], 0), (2, .iconst 0, 1, [], 0), (3, .istore_n 2, 1, [], 0), (4, .iload_n 2, 1, [], 0), (5, .aload_n 0, 1, [], 0), (6, .getfield 40, 3, [1, 2, 140], 0), (9, .if_icmp .ge 17, 3, [26], 0), (12, .iload_n 1, 1, [], 0), (13, .aload_n 0, 1, [], 0), (14, .iload_n 2, 1, [], 0), (15, .invokevirtual 55, 3, [28, 1, 1, 838, 839, 840], 0), (18, .iadd, 1, [], 0), (19, .istore_n 1, 1, [], 0), (20, .iinc 2 1, 3, [], 0), (23, .goto (-19), 3, [4], 0), (26, .iload_n 1, 1, [], 0), (27, .ireturn, 1, [], 0)]
def P_X1_yardOfClod : List (Nat × mE) := [(0, .iconst 0, 1, [], 0), (1, .istore_n 2, 1, [], 0), (2, .iconst 0, 1, [], 0), (3, .istore_n 3, 1, [], 0), (4, .iload_n 3, 1, [], 0), (5, .aload_n 0, 1, [], 0), (6, .getfield 40, 3, [1, 2, 140], 0), (9, .if_icmp .ge 24, 3, [33], 0), (12, .iload_n 2, 1, [], 0), (13, .aload_n 0, 1, [], 0), (14, .iload_n 3, 1, [], 0), (15, .invokevirtual 55, 3, [28, 1, 1, 838, 839, 840], 0), (18, .iadd, 1, [], 0), (19, .istore_n 2, 1, [], 0), (20, .iload_n 1, 1, [], 0), (21, .iload_n 2, 1, [], 0), (22, .if_icmp .ge 5, 3, [27], 0), (25, .iload_n 3, 1, [], 0), (26, .ireturn, 1, [], 0), (27, .iinc 3 1, 3, [], 0), (30, .goto (-26), 3, [4], 0), (33, .aload_n 0, 1, [], 0), (34, .getfield 40, 3, [1, 2, 140], 0), (37, .iconst 1, 1, [], 0), (38, .isub, 1, [], 0), (39, .ireturn, 1, [], 0)]
def P_X2_greatest : List (Nat × mE) := [(0, .aload_n 0, 1, [], 0), (1, .iload_n 3, 1, [], 0), (2, .putfield 33, 3, [2, 0, 258], 0), (5, .aload_n 0, 1, [], 0), (6, .aload_n 1, 1, [], 0), (7, .aload_n 2, 1, [], 0), (8, .invokevirtual 37, 3, [32, 2, 2, 762, 764, 21], 0), (11, .iconst 0, 1, [], 0), (12, .istore 4, 2, [], 0), (14, .iconst 0, 1, [], 0), (15, .istore 5, 2, [], 0), (17, .iload 5, 2, [], 0), (19, .bipush 48, 2, [], 0), (21, .if_icmp .ge 48, 3, [69], 0), (24, .aload_n 0, 1, [], 0), (25, .aload_n 1, 1, [], 0), (26, .invokevirtual 41, 3, [33, 1, 2, 769, 771, 22], 0), (29, .aload_n 0, 1, [], 0), (30, .invokevirtual 45, 3, [37, 0, 2, 791, 793, 26], 0), (33, .istore 6, 2, [], 0), (35, .iload 6, 2, [], 0), (37, .ifCond .ge 6, 3, [43], 0), (40, .goto 29, 3, [69], 0), (43, .iload 4, 2, [], 0), (45, .aload_n 0, 1, [], 0), (46, .getfield 24, 3, [2, 5, 263], 0), (49, .iload 6, 2, [], 0), (51, .invokestatic 49, 3, [124, 2, 1, 773, 460], 0), (54, .iadd, 1, [], 0), (55, .istore 4, 2, [], 0), (57, .aload_n 0, 1, [], 0), (58, .iload 6, 2, [], 0), (60, .invokevirtual 53, 3, [38, 1, 2, 795, 797, 27], 0), (63, .iinc 5 1, 3, [], 0), (66, .goto (-49), 3, [17], 0), (69, .iload 4, 2, [], 0), (71, .ireturn, 1, [], 0)]
def P_X2_look : List (Nat × mE) := [(0, .iconst 0, 1, [], 0), (1, .istore_n 3, 1, [], 0), (2, .iload_n 3, 1, [], 0), (3, .aload_n 0, 1, [], 0), (4, .getfield 9, 3, [2, 1, 259], 0), (7, .arraylength, 1, [], 0), (8, .if_icmp .ge 66, 3, [74], 0), (11, .iconst 0, 1, [], 0), (12, .istore 4, 2, [], 0), (14, .iconst 0, 1, [], 0), (15, .istore 5, 2, [], 0), (17, .iload 5, 2, [], 0), (19, .aload_n 1, 1, [], 0), (20, .getfield 57, 3, [1, 1, 137], 0), (23, .if_icmp .ge 37, 3, [60], 0), (26, .aload_n 1, 1, [], 0), (27, .iload_n 3, 1, [], 0), (28, .invokevirtual 62, 3, [20, 1, 1, 766, 611, 612], 0), (31, .ifCond .eq 23, 3, [54], 0), (34, .aload_n 2, 1, [], 0), (35, .aload_n 1, 1, [], 0), (36, .iload_n 3, 1, [], 0), (37, .iload 5, 2, [], 0), (39, .invokevirtual 66, 3, [47, 3, 5, 767, 640, 641], 0), (42, .ifCond .eq 12, 3, [54], 0), (45, .iload 4, 2, [], 0), (47, .iconst 1, 1, [], 0), (48, .iload 5, 2, [], 0), (50, .ishl, 1, [], 0), (51, .ior, 1, [], 0), (52, .istore 4, 2, [], 0), (54, .iinc 5 1, 3, [], 0), (57, .goto (-40), 3, [17], 0), (60, .aload_n 0, 1, [], 0), (61, .getfield 9, 3, [2, 1, 259], 0), (64, .iload_n 3, 1, [], 0), (65, .iload 4, 2, [], 0), (67, .iastore, 1, [], 0), (68, .iinc 3 1, 3, [], 0), (71, .goto (-69), 3, [2], 0), (74, .aload_n 0, 1, [], 0), (75, .getfield 15, 3, [2, 2, 260], 0), (78, .iconst 0, 1, [], 0), (79, .invokestatic 72, 3, [126, 2, 1, 768, 599], 0), (82, .aload_n 0, 1, [], 0), (83, .getfield 18, 3, [2, 3, 261], 0), (86, .iconst 0, 1, [], 0), (87, .invokestatic 72, 3, [126, 2, 1, 768, 599], 0), (90, .return_, 1, [], 0)]
def P_X2_findChains_c0 : List (Nat × mE) := [(0, .iconst 0, 1, [], 0), (1, .istore_n 2, 1, [], 0), (2, .iload_n 2, 1, [], 0), (3, .bipush 6, 2, [], 0), (5, .if_icmp .ge 51, 3, [56], 0), (8, .aload_n 0, 1, [], 0), (9, .getfield 15, 3, [2, 2, 260], 0), (12, .iload_n 2, 1, [], 0), (13, .invokestatic 49, 3, [124, 2, 1, 773, 460], 0), (16, .invokestatic 76, 3, [0, 1, 0, 774, 730], 0), (19, .aload_n 0, 1, [], 0), (20, .getfield 33, 3, [2, 0, 258], 0), (23, .if_icmp .ge 7, 3, [30], 0), (26, .iconst 1, 1, [], 0), (27, .goto 4, 3, [31], 0), (30, .iconst 0, 1, [], 0), (31, .istore_n 3, 1, [], 0), (32, .aload_n 0, 1, [], 0), (33, .getfield 21, 3, [2, 4, 262], 0), (36, .iload_n 2, 1, [], 0), (37, .iload_n 3, 1, [], 0), (38, .ifCond .eq 7, 3, [45], 0), (41, .iconst 0, 1, [], 0), (42, .goto 5, 3, [47], 0), (45, .ldc 82, 2, [0, 775], (-1000000)), (47, .invokestatic 83, 3, [125, 3, 1, 776, 433], 0), (50, .iinc 2 1, 3, [], 0), (53, .goto (-51), 3, [2], 0), (56, .aload_n 0, 1, [], 0), (57, .getfield 27, 3, [2, 6, 264], 0), (60, .bipush (-9), 2, [], 0), (62, .invokestatic 72, 3, [126, 2, 1, 768, 599], 0), (65, .aload_n 0, 1, [], 0), (66, .getfield 24, 3, [2, 5, 263], 0), (69, .ldc 82, 2, [0, 775], (-1000000)), (71, .invokestatic 72, 3, [126, 2, 1, 768, 599], 0), (74, .iconst 1, 1, [], 0), (75, .istore_n 2, 1, [], 0), (76, .iconst 0, 1, [], 0), (77, .istore_n 3, 1, [], 0), (78, .iload_n 3, 1, [], 0), (79, .bipush 14, 2, [], 0), (81, .if_icmp .ge 41, 3, [122], 0), (84, .iload_n 2, 1, [], 0), (85, .ifCond .eq 37, 3, [122], 0), (88, .iconst 0, 1, [], 0), (89, .istore_n 2, 1, [], 0), (90, .iconst 0, 1, [], 0), (91, .istore 4, 2, [], 0), (93, .iload 4, 2, [], 0), (95, .bipush 6, 2, [], 0), (97, .if_icmp .ge 19, 3, [116], 0), (100, .iload_n 2, 1, [], 0), (101, .aload_n 0, 1, [], 0), (102, .aload_n 1, 1, [], 0), (103, .iload 4, 2, [], 0), (105, .invokevirtual 87, 3, [34, 2, 2, 777, 779, 23], 0), (108, .ior, 1, [], 0), (109, .istore_n 2, 1, [], 0), (110, .iinc 4 1, 3, [], 0)]
def P_X2_findChains_c1 : List (Nat × mE) := [(113, .goto (-20), 3, [93], 0), (116, .iinc 3 1, 3, [], 0), (119, .goto (-41), 3, [78], 0), (122, .return_, 1, [], 0)]
def P_X2_findChains : List (Nat × mE) := P_X2_findChains_c0 ++ (P_X2_findChains_c1)
def P_X2_lengthenBy : List (Nat × mE) := [(0, .iconst 0, 1, [], 0), (1, .istore_n 3, 1, [], 0), (2, .iconst 0, 1, [], 0), (3, .istore 4, 2, [], 0), (5, .iload 4, 2, [], 0), (7, .bipush 8, 2, [], 0), (9, .if_icmp .ge 78, 3, [87], 0), (12, .aload_n 0, 1, [], 0), (13, .getfield 15, 3, [2, 2, 260], 0), (16, .iload_n 2, 1, [], 0), (17, .invokestatic 49, 3, [124, 2, 1, 773, 460], 0), (20, .iload 4, 2, [], 0), (22, .invokestatic 91, 3, [122, 2, 1, 781, 624], 0), (25, .ifCond .eq 23, 3, [48], 0), (28, .iload_n 3, 1, [], 0), (29, .aload_n 0, 1, [], 0), (30, .iload_n 2, 1, [], 0), (31, .iload 4, 2, [], 0), (33, .aload_n 1, 1, [], 0), (34, .iload_n 2, 1, [], 0), (35, .iload 4, 2, [], 0), (37, .invokevirtual 95, 3, [27, 2, 1, 782, 665, 666], 0), (40, .invokevirtual 99, 3, [36, 3, 2, 783, 785, 24], 0), (43, .ior, 1, [], 0), (44, .istore_n 3, 1, [], 0), (45, .goto 36, 3, [81], 0), (48, .aload_n 0, 1, [], 0), (49, .getfield 9, 3, [2, 1, 259], 0), (52, .iload_n 2, 1, [], 0), (53, .invokestatic 49, 3, [124, 2, 1, 773, 460], 0), (56, .iload 4, 2, [], 0), (58, .invokestatic 91, 3, [122, 2, 1, 781, 624], 0), (61, .ifCond .eq 20, 3, [81], 0), (64, .iload_n 3, 1, [], 0), (65, .aload_n 0, 1, [], 0), (66, .iload_n 2, 1, [], 0), (67, .iload 4, 2, [], 0), (69, .aload_n 1, 1, [], 0), (70, .iload_n 2, 1, [], 0), (71, .iload 4, 2, [], 0), (73, .invokevirtual 95, 3, [27, 2, 1, 782, 665, 666], 0), (76, .invokevirtual 103, 3, [35, 3, 2, 787, 789, 25], 0), (79, .ior, 1, [], 0), (80, .istore_n 3, 1, [], 0), (81, .iinc 4 1, 3, [], 0), (84, .goto (-79), 3, [5], 0), (87, .iload_n 3, 1, [], 0), (88, .ireturn, 1, [], 0)]
def P_X2_lengthenToSpade : List (Nat × mE) := [(0, .aload_n 0, 1, [], 0), (1, .getfield 21, 3, [2, 4, 262], 0), (4, .iload_n 1, 1, [], 0), (5, .invokestatic 49, 3, [124, 2, 1, 773, 460], 0), (8, .istore 4, 2, [], 0), (10, .iload 4, 2, [], 0), (12, .ldc 82, 2, [0, 775], (-1000000)), (14, .if_icmp .eq 18, 3, [32], 0), (17, .iload 4, 2, [], 0), (19, .iload_n 3, 1, [], 0), (20, .iadd, 1, [], 0), (21, .aload_n 0, 1, [], 0), (22, .getfield 24, 3, [2, 5, 263], 0), (25, .iload_n 2, 1, [], 0), (26, .invokestatic 49, 3, [124, 2, 1, 773, 460], 0), (29, .if_icmp .gt 5, 3, [34], 0), (32, .iconst 0, 1, [], 0), (33, .ireturn, 1, [], 0), (34, .aload_n 0, 1, [], 0), (35, .getfield 24, 3, [2, 5, 263], 0), (38, .iload_n 2, 1, [], 0), (39, .iload 4, 2, [], 0), (41, .iload_n 3, 1, [], 0), (42, .iadd, 1, [], 0), (43, .invokestatic 83, 3, [125, 3, 1, 776, 433], 0), (46, .aload_n 0, 1, [], 0), (47, .getfield 30, 3, [2, 7, 265], 0), (50, .iload_n 2, 1, [], 0), (51, .iload_n 1, 1, [], 0), (52, .invokestatic 83, 3, [125, 3, 1, 776, 433], 0), (55, .iconst 1, 1, [], 0), (56, .ireturn, 1, [], 0)]
def P_X2_lengthenToDigger : List (Nat × mE) := [(0, .aload_n 0, 1, [], 0), (1, .getfield 24, 3, [2, 5, 263], 0), (4, .iload_n 2, 1, [], 0), (5, .invokestatic 49, 3, [124, 2, 1, 773, 460], 0), (8, .istore 4, 2, [], 0), (10, .iload 4, 2, [], 0), (12, .ldc 82, 2, [0, 775], (-1000000)), (14, .if_icmp .eq 18, 3, [32], 0), (17, .iload 4, 2, [], 0), (19, .iload_n 3, 1, [], 0), (20, .isub, 1, [], 0), (21, .aload_n 0, 1, [], 0), (22, .getfield 21, 3, [2, 4, 262], 0), (25, .iload_n 1, 1, [], 0), (26, .invokestatic 49, 3, [124, 2, 1, 773, 460], 0), (29, .if_icmp .gt 5, 3, [34], 0), (32, .iconst 0, 1, [], 0), (33, .ireturn, 1, [], 0), (34, .aload_n 0, 1, [], 0), (35, .getfield 21, 3, [2, 4, 262], 0), (38, .iload_n 1, 1, [], 0), (39, .iload 4, 2, [], 0), (41, .iload_n 3, 1, [], 0), (42, .isub, 1, [], 0), (43, .invokestatic 83, 3, [125, 3, 1, 776, 433], 0), (46, .aload_n 0, 1, [], 0), (47, .getfield 27, 3, [2, 6, 264], 0), (50, .iload_n 1, 1, [], 0), (51, .iload_n 2, 1, [], 0), (52, .invokestatic 83, 3, [125, 3, 1, 776, 433], 0), (55, .iconst 1, 1, [], 0), (56, .ireturn, 1, [], 0)]
def P_X2_bestLastSpade : List (Nat × mE) := [(0, .bipush (-9), 2, [], 0), (2, .istore_n 1, 1, [], 0), (3, .iconst 0, 1, [], 0), (4, .istore_n 2, 1, [], 0), (5, .iconst 0, 1, [], 0), (6, .istore_n 3, 1, [], 0), (7, .iload_n 3, 1, [], 0), (8, .bipush 8, 2, [], 0), (10, .if_icmp .ge 47, 3, [57], 0), (13, .aload_n 0, 1, [], 0), (14, .getfield 18, 3, [2, 3, 261], 0), (17, .iload_n 3, 1, [], 0), (18, .invokestatic 49, 3, [124, 2, 1, 773, 460], 0), (21, .aload_n 0, 1, [], 0), (22, .getfield 33, 3, [2, 0, 258], 0), (25, .if_icmp .ge 26, 3, [51], 0), (28, .aload_n 0, 1, [], 0), (29, .getfield 24, 3, [2, 5, 263], 0), (32, .iload_n 3, 1, [], 0), (33, .invokestatic 49, 3, [124, 2, 1, 773, 460], 0), (36, .iload_n 2, 1, [], 0), (37, .if_icmp .le 14, 3, [51], 0), (40, .aload_n 0, 1, [], 0), (41, .getfield 24, 3, [2, 5, 263], 0), (44, .iload_n 3, 1, [], 0), (45, .invokestatic 49, 3, [124, 2, 1, 773, 460], 0), (48, .istore_n 2, 1, [], 0), (49, .iload_n 3, 1, [], 0), (50, .istore_n 1, 1, [], 0), (51, .iinc 3 1, 3, [], 0), (54, .goto (-47), 3, [7], 0), (57, .iload_n 1, 1, [], 0), (58, .ireturn, 1, [], 0)]
def P_X2_follow : List (Nat × mE) := [(0, .aload_n 0, 1, [], 0), (1, .getfield 18, 3, [2, 3, 261], 0), (4, .iload_n 1, 1, [], 0), (5, .aload_n 0, 1, [], 0), (6, .getfield 18, 3, [2, 3, 261], 0), (9, .iload_n 1, 1, [], 0), (10, .invokestatic 49, 3, [124, 2, 1, 773, 460], 0), (13, .iconst 1, 1, [], 0), (14, .iadd, 1, [], 0), (15, .invokestatic 83, 3, [125, 3, 1, 776, 433], 0), (18, .iload_n 1, 1, [], 0), (19, .istore_n 2, 1, [], 0), (20, .iconst 0, 1, [], 0), (21, .istore_n 3, 1, [], 0), (22, .iload_n 3, 1, [], 0), (23, .bipush 6, 2, [], 0), (25, .if_icmp .gt 80, 3, [105], 0), (28, .iload_n 2, 1, [], 0), (29, .ifCond .lt 76, 3, [105], 0), (32, .aload_n 0, 1, [], 0), (33, .getfield 30, 3, [2, 7, 265], 0), (36, .iload_n 2, 1, [], 0), (37, .invokestatic 49, 3, [124, 2, 1, 773, 460], 0), (40, .istore 4, 2, [], 0), (42, .aload_n 0, 1, [], 0), (43, .getfield 27, 3, [2, 6, 264], 0), (46, .iload 4, 2, [], 0), (48, .invokestatic 49, 3, [124, 2, 1, 773, 460], 0), (51, .istore 5, 2, [], 0), (53, .aload_n 0, 1, [], 0), (54, .getfield 15, 3, [2, 2, 260], 0), (57, .iload 4, 2, [], 0), (59, .invokestatic 49, 3, [124, 2, 1, 773, 460], 0), (62, .iconst 1, 1, [], 0), (63, .iload_n 2, 1, [], 0), (64, .ishl, 1, [], 0), (65, .ior, 1, [], 0), (66, .istore 6, 2, [], 0), (68, .aload_n 0, 1, [], 0), (69, .getfield 15, 3, [2, 2, 260], 0), (72, .iload 4, 2, [], 0), (74, .iload 5, 2, [], 0), (76, .ifCond .ge 8, 3, [84], 0), (79, .iload 6, 2, [], 0), (81, .goto 12, 3, [93], 0), (84, .iload 6, 2, [], 0), (86, .iconst 1, 1, [], 0), (87, .iload 5, 2, [], 0), (89, .ishl, 1, [], 0), (90, .iconst (-1), 1, [], 0), (91, .ixor, 1, [], 0), (92, .iand, 1, [], 0), (93, .invokestatic 83, 3, [125, 3, 1, 776, 433], 0), (96, .iload 5, 2, [], 0), (98, .istore_n 2, 1, [], 0), (99, .iinc 3 1, 3, [], 0), (102, .goto (-80), 3, [22], 0), (105, .return_, 1, [], 0)]
def P_X3_add : List (Nat × mE) := [(0, .aload_n 0, 1, [], 0), (1, .getfield 21, 3, [3, 0, 343], 0), (4, .bipush 8, 2, [], 0), (6, .if_icmp .lt 5, 3, [11], 0), (9, .iconst 0, 1, [], 0), (10, .ireturn, 1, [], 0), (11, .aload_n 0, 1, [], 0), (12, .getfield 9, 3, [3, 1, 345], 0), (15, .aload_n 0, 1, [], 0), (16, .getfield 21, 3, [3, 0, 343], 0), (19, .iload_n 1, 1, [], 0), (20, .invokestatic 25, 3, [125, 3, 1, 876, 433], 0), (23, .aload_n 0, 1, [], 0), (24, .getfield 15, 3, [3, 2, 346], 0), (27, .aload_n 0, 1, [], 0), (28, .getfield 21, 3, [3, 0, 343], 0), (31, .iload_n 2, 1, [], 0), (32, .invokestatic 25, 3, [125, 3, 1, 876, 433], 0), (35, .aload_n 0, 1, [], 0), (36, .getfield 18, 3, [3, 3, 347], 0), (39, .aload_n 0, 1, [], 0), (40, .getfield 21, 3, [3, 0, 343], 0), (43, .iload_n 3, 1, [], 0), (44, .invokestatic 25, 3, [125, 3, 1, 876, 433], 0), (47, .aload_n 0, 1, [], 0), (48, .dup, 1, [], 0), (49, .getfield 21, 3, [3, 0, 343], 0), (52, .iconst 1, 1, [], 0), (53, .iadd, 1, [], 0), (54, .putfield 21, 3, [3, 0, 343], 0), (57, .iconst 1, 1, [], 0), (58, .ireturn, 1, [], 0)]
def P_X3_leastClods : List (Nat × mE) := [(0, .iconst 1, 1, [], 0), (1, .istore_n 1, 1, [], 0), (2, .iconst 0, 1, [], 0), (3, .istore_n 2, 1, [], 0), (4, .iload_n 2, 1, [], 0), (5, .aload_n 0, 1, [], 0), (6, .getfield 21, 3, [3, 0, 343], 0), (9, .if_icmp .ge 50, 3, [59], 0), (12, .iconst 0, 1, [], 0), (13, .istore_n 3, 1, [], 0), (14, .iload_n 3, 1, [], 0), (15, .aload_n 0, 1, [], 0), (16, .getfield 21, 3, [3, 0, 343], 0), (19, .if_icmp .ge 34, 3, [53], 0), (22, .iload_n 1, 1, [], 0), (23, .aload_n 0, 1, [], 0), (24, .aload_n 0, 1, [], 0), (25, .getfield 9, 3, [3, 1, 345], 0), (28, .iload_n 2, 1, [], 0), (29, .invokestatic 29, 3, [124, 2, 1, 885, 460], 0), (32, .aload_n 0, 1, [], 0), (33, .getfield 18, 3, [3, 3, 347], 0), (36, .iload_n 3, 1, [], 0), (37, .invokestatic 29, 3, [124, 2, 1, 885, 460], 0), (40, .invokevirtual 33, 3, [41, 2, 3, 886, 888, 32], 0), (43, .invokestatic 37, 3, [3, 2, 0, 892, 672], 0), (46, .istore_n 1, 1, [], 0), (47, .iinc 3 1, 3, [], 0), (50, .goto (-36), 3, [14], 0), (53, .iinc 2 1, 3, [], 0), (56, .goto (-52), 3, [4], 0), (59, .iload_n 1, 1, [], 0), (60, .ireturn, 1, [], 0)]
def P_X3_neededWithin : List (Nat × mE) := [(0, .iconst 0, 1, [], 0), (1, .istore_n 3, 1, [], 0), (2, .iconst 0, 1, [], 0), (3, .istore 4, 2, [], 0), (5, .iload 4, 2, [], 0), (7, .aload_n 0, 1, [], 0), (8, .getfield 21, 3, [3, 0, 343], 0), (11, .if_icmp .ge 47, 3, [58], 0), (14, .aload_n 0, 1, [], 0), (15, .getfield 9, 3, [3, 1, 345], 0), (18, .iload 4, 2, [], 0), (20, .invokestatic 29, 3, [124, 2, 1, 885, 460], 0), (23, .iload_n 1, 1, [], 0), (24, .if_icmp .lt 28, 3, [52], 0), (27, .aload_n 0, 1, [], 0), (28, .getfield 18, 3, [3, 3, 347], 0), (31, .iload 4, 2, [], 0), (33, .invokestatic 29, 3, [124, 2, 1, 885, 460], 0), (36, .iload_n 2, 1, [], 0), (37, .if_icmp .gt 15, 3, [52], 0), (40, .iload_n 3, 1, [], 0), (41, .aload_n 0, 1, [], 0), (42, .getfield 15, 3, [3, 2, 346], 0), (45, .iload 4, 2, [], 0), (47, .invokestatic 29, 3, [124, 2, 1, 885, 460], 0), (50, .iadd, 1, [], 0), (51, .istore_n 3, 1, [], 0), (52, .iinc 4 1, 3, [], 0), (55, .goto (-50), 3, [5], 0), (58, .iload_n 3, 1, [], 0), (59, .ifCond .ne 5, 3, [64], 0), (62, .iconst 0, 1, [], 0), (63, .ireturn, 1, [], 0), (64, .iload_n 2, 1, [], 0), (65, .iload_n 1, 1, [], 0), (66, .isub, 1, [], 0), (67, .istore 4, 2, [], 0), (69, .iload 4, 2, [], 0), (71, .iconst 1, 1, [], 0), (72, .if_icmp .ge 8, 3, [80], 0), (75, .ldc 42, 2, [0, 890], 1000000), (77, .goto 14, 3, [91], 0), (80, .iload_n 3, 1, [], 0), (81, .iload 4, 2, [], 0), (83, .iadd, 1, [], 0), (84, .iconst 1, 1, [], 0), (85, .isub, 1, [], 0), (86, .iload 4, 2, [], 0), (88, .invokestatic 43, 3, [128, 2, 1, 891, 669], 0), (91, .ireturn, 1, [], 0)]
def P_X4_hold_c0 : List (Nat × mE) := [(0, .aload_n 0, 1, [], 0), (1, .iload_n 2, 1, [], 0), (2, .putfield 7, 3, [4, 3, 318], 0), (5, .aload_n 0, 1, [], 0), (6, .iload_n 3, 1, [], 0), (7, .putfield 13, 3, [4, 4, 319], 0), (10, .aload_n 0, 1, [], 0), (11, .iload 4, 2, [], 0), (13, .putfield 16, 3, [4, 5, 320], 0), (16, .aload_n 0, 1, [], 0), (17, .iload 5, 2, [], 0), (19, .putfield 19, 3, [4, 6, 321], 0), (22, .aload_n 1, 1, [], 0), (23, .invokevirtual 22, 3, [29, 0, 1, 834, 835, 836], 0), (26, .istore 6, 2, [], 0), (28, .aload_n 0, 1, [], 0), (29, .aload_n 0, 1, [], 0), (30, .iload 6, 2, [], 0), (32, .invokevirtual 28, 3, [43, 1, 4, 842, 844, 30], 0), (35, .putfield 32, 3, [4, 0, 312], 0), (38, .aload_n 0, 1, [], 0), (39, .getfield 7, 3, [4, 3, 318], 0), (42, .aload_n 0, 1, [], 0), (43, .getfield 32, 3, [4, 0, 312], 0), (46, .iconst 1, 1, [], 0), (47, .isub, 1, [], 0), (48, .aload_n 0, 1, [], 0), (49, .getfield 13, 3, [4, 4, 319], 0), (52, .invokestatic 35, 3, [128, 2, 1, 846, 669], 0), (55, .imul, 1, [], 0), (56, .istore 7, 2, [], 0), (58, .aload_n 0, 1, [], 0), (59, .getfield 16, 3, [4, 5, 320], 0), (62, .aload_n 0, 1, [], 0), (63, .getfield 32, 3, [4, 0, 312], 0), (66, .iconst 1, 1, [], 0), (67, .isub, 1, [], 0), (68, .aload_n 0, 1, [], 0), (69, .getfield 19, 3, [4, 6, 321], 0), (72, .invokestatic 35, 3, [128, 2, 1, 846, 669], 0), (75, .imul, 1, [], 0), (76, .istore 8, 2, [], 0), (78, .iload 6, 2, [], 0), (80, .iload 7, 2, [], 0), (82, .isub, 1, [], 0), (83, .iload 8, 2, [], 0), (85, .isub, 1, [], 0), (86, .istore 9, 2, [], 0), (88, .aload_n 0, 1, [], 0), (89, .getfield 32, 3, [4, 0, 312], 0), (92, .aload_n 0, 1, [], 0), (93, .getfield 13, 3, [4, 4, 319], 0), (96, .invokestatic 41, 3, [129, 2, 1, 851, 852], 0), (99, .ifCond .ne 10, 3, [109], 0), (102, .aload_n 0, 1, [], 0), (103, .getfield 7, 3, [4, 3, 318], 0), (106, .goto 4, 3, [110], 0), (109, .iconst 0, 1, [], 0), (110, .istore 10, 2, [], 0), (112, .aload_n 0, 1, [], 0)]
def P_X4_hold_c1 : List (Nat × mE) := [(113, .iload 7, 2, [], 0), (115, .iload 10, 2, [], 0), (117, .iload 9, 2, [], 0), (119, .invokestatic 44, 3, [4, 2, 0, 854, 684], 0), (122, .iadd, 1, [], 0), (123, .putfield 49, 3, [4, 2, 316], 0), (126, .aload_n 0, 1, [], 0), (127, .aload_n 1, 1, [], 0), (128, .iload 10, 2, [], 0), (130, .iload 9, 2, [], 0), (132, .if_icmp .lt 13, 3, [145], 0), (135, .iload 6, 2, [], 0), (137, .iload 8, 2, [], 0), (139, .isub, 1, [], 0), (140, .iconst 1, 1, [], 0), (141, .isub, 1, [], 0), (142, .goto 7, 3, [149], 0), (145, .aload_n 0, 1, [], 0), (146, .getfield 49, 3, [4, 2, 316], 0), (149, .invokevirtual 52, 3, [30, 1, 1, 855, 856, 857], 0), (152, .putfield 55, 3, [4, 1, 314], 0), (155, .return_, 1, [], 0)]
def P_X4_hold : List (Nat × mE) := P_X4_hold_c0 ++ (P_X4_hold_c1)
def P_X4_firstBeatWith : List (Nat × mE) := [(0, .iconst 1, 1, [], 0), (1, .istore_n 2, 1, [], 0), (2, .iload_n 1, 1, [], 0), (3, .aload_n 0, 1, [], 0), (4, .getfield 7, 3, [4, 3, 318], 0), (7, .invokestatic 35, 3, [128, 2, 1, 846, 669], 0), (10, .iconst 1, 1, [], 0), (11, .iadd, 1, [], 0), (12, .aload_n 0, 1, [], 0), (13, .getfield 13, 3, [4, 4, 319], 0), (16, .imul, 1, [], 0), (17, .istore_n 3, 1, [], 0), (18, .iconst 0, 1, [], 0), (19, .istore 4, 2, [], 0), (21, .iload 4, 2, [], 0), (23, .bipush 32, 2, [], 0), (25, .if_icmp .ge 44, 3, [69], 0), (28, .iload_n 2, 1, [], 0), (29, .iload_n 3, 1, [], 0), (30, .if_icmp .ge 39, 3, [69], 0), (33, .iload_n 2, 1, [], 0), (34, .iload_n 3, 1, [], 0), (35, .iload_n 2, 1, [], 0), (36, .isub, 1, [], 0), (37, .iconst 2, 1, [], 0), (38, .idiv, 1, [], 0), (39, .iadd, 1, [], 0), (40, .istore 5, 2, [], 0), (42, .aload_n 0, 1, [], 0), (43, .iload 5, 2, [], 0), (45, .invokevirtual 58, 3, [44, 1, 4, 847, 849, 31], 0), (48, .iload_n 1, 1, [], 0), (49, .if_icmp .lt 9, 3, [58], 0), (52, .iload 5, 2, [], 0), (54, .istore_n 3, 1, [], 0), (55, .goto 8, 3, [63], 0), (58, .iload 5, 2, [], 0), (60, .iconst 1, 1, [], 0), (61, .iadd, 1, [], 0), (62, .istore_n 2, 1, [], 0), (63, .iinc 4 1, 3, [], 0), (66, .goto (-45), 3, [21], 0), (69, .iload_n 2, 1, [], 0), (70, .ireturn, 1, [], 0)]
def P_X4_dugBy : List (Nat × mE) := [(0, .aload_n 0, 1, [], 0), (1, .getfield 7, 3, [4, 3, 318], 0), (4, .iload_n 1, 1, [], 0), (5, .aload_n 0, 1, [], 0), (6, .getfield 13, 3, [4, 4, 319], 0), (9, .invokestatic 35, 3, [128, 2, 1, 846, 669], 0), (12, .imul, 1, [], 0), (13, .aload_n 0, 1, [], 0), (14, .getfield 16, 3, [4, 5, 320], 0), (17, .iload_n 1, 1, [], 0), (18, .aload_n 0, 1, [], 0), (19, .getfield 19, 3, [4, 6, 321], 0), (22, .invokestatic 35, 3, [128, 2, 1, 846, 669], 0), (25, .imul, 1, [], 0), (26, .iadd, 1, [], 0), (27, .ireturn, 1, [], 0)]
def P_X5_reset : List (Nat × mE) := [(0, .aload_n 0, 1, [], 0), (1, .iconst 0, 1, [], 0), (2, .putfield 18, 3, [5, 0, 189], 0), (5, .aload_n 0, 1, [], 0), (6, .iconst 0, 1, [], 0), (7, .putfield 22, 3, [5, 1, 191], 0), (10, .aload_n 0, 1, [], 0), (11, .iconst 0, 1, [], 0), (12, .putfield 25, 3, [5, 2, 193], 0), (15, .aload_n 0, 1, [], 0), (16, .iconst 0, 1, [], 0), (17, .putfield 28, 3, [5, 3, 195], 0), (20, .aload_n 0, 1, [], 0), (21, .iconst 0, 1, [], 0), (22, .putfield 31, 3, [5, 4, 197], 0), (25, .aload_n 0, 1, [], 0), (26, .iconst 0, 1, [], 0), (27, .putfield 34, 3, [5, 5, 199], 0), (30, .aload_n 0, 1, [], 0), (31, .iconst 0, 1, [], 0), (32, .putfield 37, 3, [5, 6, 201], 0), (35, .aload_n 0, 1, [], 0), (36, .getfield 9, 3, [5, 7, 203], 0), (39, .iconst 0, 1, [], 0), (40, .invokestatic 40, 3, [126, 2, 1, 598, 599], 0), (43, .aload_n 0, 1, [], 0), (44, .getfield 15, 3, [5, 8, 205], 0), (47, .iconst 0, 1, [], 0), (48, .invokestatic 40, 3, [126, 2, 1, 598, 599], 0), (51, .return_, 1, [], 0)]
def P_X5_copyFrom : List (Nat × mE) := [(0, .aload_n 0, 1, [], 0), (1, .aload_n 1, 1, [], 0), (2, .getfield 18, 3, [5, 0, 189], 0), (5, .putfield 18, 3, [5, 0, 189], 0), (8, .aload_n 0, 1, [], 0), (9, .aload_n 1, 1, [], 0), (10, .getfield 22, 3, [5, 1, 191], 0), (13, .putfield 22, 3, [5, 1, 191], 0), (16, .aload_n 0, 1, [], 0), (17, .aload_n 1, 1, [], 0), (18, .getfield 25, 3, [5, 2, 193], 0), (21, .putfield 25, 3, [5, 2, 193], 0), (24, .aload_n 0, 1, [], 0), (25, .aload_n 1, 1, [], 0), (26, .getfield 28, 3, [5, 3, 195], 0), (29, .putfield 28, 3, [5, 3, 195], 0), (32, .aload_n 0, 1, [], 0), (33, .aload_n 1, 1, [], 0), (34, .getfield 31, 3, [5, 4, 197], 0), (37, .putfield 31, 3, [5, 4, 197], 0), (40, .aload_n 0, 1, [], 0), (41, .aload_n 1, 1, [], 0), (42, .getfield 34, 3, [5, 5, 199], 0), (45, .putfield 34, 3, [5, 5, 199], 0), (48, .aload_n 0, 1, [], 0), (49, .aload_n 1, 1, [], 0), (50, .getfield 37, 3, [5, 6, 201], 0), (53, .putfield 37, 3, [5, 6, 201], 0), (56, .aload_n 1, 1, [], 0), (57, .getfield 9, 3, [5, 7, 203], 0), (60, .aload_n 0, 1, [], 0), (61, .getfield 9, 3, [5, 7, 203], 0), (64, .invokestatic 44, 3, [127, 2, 1, 985, 986], 0), (67, .aload_n 1, 1, [], 0), (68, .getfield 15, 3, [5, 8, 205], 0), (71, .aload_n 0, 1, [], 0), (72, .getfield 15, 3, [5, 8, 205], 0), (75, .invokestatic 44, 3, [127, 2, 1, 985, 986], 0), (78, .return_, 1, [], 0)]
def P_X5_allows : List (Nat × mE) := [(0, .aload_n 1, 1, [], 0), (1, .iload_n 2, 1, [], 0), (2, .iload_n 3, 1, [], 0), (3, .invokevirtual 48, 3, [26, 2, 1, 643, 644, 645], 0), (6, .ifCond .eq 33, 3, [39], 0), (9, .aload_n 0, 1, [], 0), (10, .getfield 37, 3, [5, 6, 201], 0), (13, .iload_n 3, 1, [], 0), (14, .invokestatic 54, 3, [122, 2, 1, 648, 624], 0), (17, .ifCond .ne 22, 3, [39], 0), (20, .aload_n 0, 1, [], 0), (21, .getfield 9, 3, [5, 7, 203], 0), (24, .iload_n 2, 1, [], 0), (25, .invokestatic 57, 3, [124, 2, 1, 649, 460], 0), (28, .iload_n 3, 1, [], 0), (29, .invokestatic 54, 3, [122, 2, 1, 648, 624], 0), (32, .ifCond .ne 7, 3, [39], 0), (35, .iconst 1, 1, [], 0), (36, .goto 4, 3, [40], 0), (39, .iconst 0, 1, [], 0), (40, .ireturn, 1, [], 0)]
def P_X5_canThrow : List (Nat × mE) := [(0, .aload_n 0, 1, [], 0), (1, .aload_n 1, 1, [], 0), (2, .iload_n 2, 1, [], 0), (3, .iload_n 3, 1, [], 0), (4, .invokevirtual 61, 3, [47, 3, 5, 658, 640, 641], 0), (7, .ifCond .eq 29, 3, [36], 0), (10, .aload_n 0, 1, [], 0), (11, .getfield 31, 3, [5, 4, 197], 0), (14, .iload_n 2, 1, [], 0), (15, .invokestatic 54, 3, [122, 2, 1, 648, 624], 0), (18, .ifCond .ne 18, 3, [36], 0), (21, .aload_n 0, 1, [], 0), (22, .getfield 34, 3, [5, 5, 199], 0), (25, .iload_n 3, 1, [], 0), (26, .invokestatic 54, 3, [122, 2, 1, 648, 624], 0), (29, .ifCond .ne 7, 3, [36], 0), (32, .iconst 1, 1, [], 0), (33, .goto 4, 3, [37], 0), (36, .iconst 0, 1, [], 0), (37, .ireturn, 1, [], 0)]
def P_X5_earthOf : List (Nat × mE) := [(0, .aload_n 1, 1, [], 0), (1, .aload_n 0, 1, [], 0), (2, .getfield 28, 3, [5, 3, 195], 0), (5, .invokevirtual 65, 3, [22, 1, 1, 663, 632, 633], 0), (8, .ifCond .eq 17, 3, [25], 0), (11, .aload_n 1, 1, [], 0), (12, .getfield 69, 3, [1, 9, 160], 0), (15, .aload_n 0, 1, [], 0), (16, .getfield 28, 3, [5, 3, 195], 0), (19, .invokestatic 57, 3, [124, 2, 1, 649, 460], 0), (22, .goto 4, 3, [26], 0), (25, .iconst 1, 1, [], 0), (26, .istore 4, 2, [], 0), (28, .iconst 1, 1, [], 0), (29, .aload_n 1, 1, [], 0), (30, .iload_n 2, 1, [], 0), (31, .iload_n 3, 1, [], 0), (32, .invokevirtual 72, 3, [27, 2, 1, 664, 665, 666], 0), (35, .iload 4, 2, [], 0), (37, .invokestatic 76, 3, [128, 2, 1, 668, 669], 0), (40, .invokestatic 79, 3, [3, 2, 0, 671, 672], 0), (43, .ireturn, 1, [], 0)]
def P_X5_noteThrow : List (Nat × mE) := [(0, .aload_n 0, 1, [], 0), (1, .dup, 1, [], 0), (2, .getfield 31, 3, [5, 4, 197], 0), (5, .iconst 1, 1, [], 0), (6, .iload_n 1, 1, [], 0), (7, .ishl, 1, [], 0), (8, .ior, 1, [], 0), (9, .putfield 31, 3, [5, 4, 197], 0), (12, .aload_n 0, 1, [], 0), (13, .dup, 1, [], 0), (14, .getfield 34, 3, [5, 5, 199], 0), (17, .iconst 1, 1, [], 0), (18, .iload_n 2, 1, [], 0), (19, .ishl, 1, [], 0), (20, .ior, 1, [], 0), (21, .putfield 34, 3, [5, 5, 199], 0), (24, .aload_n 0, 1, [], 0), (25, .getfield 9, 3, [5, 7, 203], 0), (28, .iload_n 1, 1, [], 0), (29, .aload_n 0, 1, [], 0), (30, .getfield 9, 3, [5, 7, 203], 0), (33, .iload_n 1, 1, [], 0), (34, .invokestatic 57, 3, [124, 2, 1, 649, 460], 0), (37, .iconst 1, 1, [], 0), (38, .iload_n 2, 1, [], 0), (39, .ishl, 1, [], 0), (40, .ior, 1, [], 0), (41, .invokestatic 84, 3, [125, 3, 1, 678, 433], 0), (44, .return_, 1, [], 0)]
def P_X5_dig : List (Nat × mE) := [(0, .aload_n 1, 1, [], 0), (1, .aload_n 0, 1, [], 0), (2, .getfield 28, 3, [5, 3, 195], 0), (5, .invokevirtual 65, 3, [22, 1, 1, 663, 632, 633], 0), (8, .ifCond .ne 4, 3, [12], 0), (11, .return_, 1, [], 0), (12, .aload_n 0, 1, [], 0), (13, .getfield 15, 3, [5, 8, 205], 0), (16, .aload_n 0, 1, [], 0), (17, .getfield 28, 3, [5, 3, 195], 0), (20, .invokestatic 57, 3, [124, 2, 1, 649, 460], 0), (23, .istore_n 3, 1, [], 0), (24, .iload_n 3, 1, [], 0), (25, .iload_n 2, 1, [], 0), (26, .iadd, 1, [], 0), (27, .aload_n 1, 1, [], 0), (28, .getfield 88, 3, [1, 8, 158], 0), (31, .aload_n 0, 1, [], 0), (32, .getfield 28, 3, [5, 3, 195], 0), (35, .invokestatic 57, 3, [124, 2, 1, 649, 460], 0), (38, .invokestatic 91, 3, [4, 2, 0, 683, 684], 0), (41, .istore 4, 2, [], 0), (43, .aload_n 0, 1, [], 0), (44, .getfield 15, 3, [5, 8, 205], 0), (47, .aload_n 0, 1, [], 0), (48, .getfield 28, 3, [5, 3, 195], 0), (51, .iload 4, 2, [], 0), (53, .invokestatic 84, 3, [125, 3, 1, 678, 433], 0), (56, .aload_n 0, 1, [], 0), (57, .dup, 1, [], 0), (58, .getfield 25, 3, [5, 2, 193], 0), (61, .iload 4, 2, [], 0), (63, .iload_n 3, 1, [], 0), (64, .isub, 1, [], 0), (65, .iadd, 1, [], 0), (66, .putfield 25, 3, [5, 2, 193], 0), (69, .iload 4, 2, [], 0), (71, .aload_n 1, 1, [], 0), (72, .getfield 88, 3, [1, 8, 158], 0), (75, .aload_n 0, 1, [], 0), (76, .getfield 28, 3, [5, 3, 195], 0), (79, .invokestatic 57, 3, [124, 2, 1, 649, 460], 0), (82, .if_icmp .ne 13, 3, [95], 0), (85, .aload_n 0, 1, [], 0), (86, .dup, 1, [], 0), (87, .getfield 28, 3, [5, 3, 195], 0), (90, .iconst 1, 1, [], 0), (91, .iadd, 1, [], 0), (92, .putfield 28, 3, [5, 3, 195], 0), (95, .return_, 1, [], 0)]
def P_X5_endRound : List (Nat × mE) := [(0, .iconst 0, 1, [], 0), (1, .istore_n 2, 1, [], 0), (2, .iconst 0, 1, [], 0), (3, .istore_n 3, 1, [], 0), (4, .iload_n 3, 1, [], 0), (5, .aload_n 1, 1, [], 0), (6, .getfield 94, 3, [1, 0, 135], 0), (9, .if_icmp .ge 33, 3, [42], 0), (12, .aload_n 0, 1, [], 0), (13, .getfield 31, 3, [5, 4, 197], 0), (16, .iload_n 3, 1, [], 0), (17, .invokestatic 54, 3, [122, 2, 1, 648, 624], 0), (20, .ifCond .eq 16, 3, [36], 0), (23, .iload_n 2, 1, [], 0), (24, .aload_n 1, 1, [], 0), (25, .getfield 97, 3, [1, 4, 149], 0), (28, .iload_n 3, 1, [], 0), (29, .invokestatic 57, 3, [124, 2, 1, 649, 460], 0), (32, .invokestatic 79, 3, [3, 2, 0, 671, 672], 0), (35, .istore_n 2, 1, [], 0), (36, .iinc 3 1, 3, [], 0), (39, .goto (-35), 3, [4], 0), (42, .aload_n 0, 1, [], 0), (43, .dup, 1, [], 0), (44, .getfield 18, 3, [5, 0, 189], 0), (47, .iconst 1, 1, [], 0), (48, .iadd, 1, [], 0), (49, .putfield 18, 3, [5, 0, 189], 0), (52, .aload_n 0, 1, [], 0), (53, .dup, 1, [], 0), (54, .getfield 22, 3, [5, 1, 191], 0), (57, .iload_n 2, 1, [], 0), (58, .iadd, 1, [], 0), (59, .putfield 22, 3, [5, 1, 191], 0), (62, .aload_n 0, 1, [], 0), (63, .iconst 0, 1, [], 0), (64, .putfield 31, 3, [5, 4, 197], 0), (67, .aload_n 0, 1, [], 0), (68, .iconst 0, 1, [], 0), (69, .putfield 34, 3, [5, 5, 199], 0), (72, .iload_n 2, 1, [], 0), (73, .ireturn, 1, [], 0)]
def P_X6_part_c0 : List (Nat × mE) := [(0, .iconst 1, 1, [], 0), (1, .aload_n 1, 1, [], 0), (2, .getfield 15, 3, [1, 0, 131], 0), (5, .ishl, 1, [], 0), (6, .iconst 1, 1, [], 0), (7, .isub, 1, [], 0), (8, .istore 4, 2, [], 0), (10, .iconst 0, 1, [], 0), (11, .istore 5, 2, [], 0), (13, .iload 5, 2, [], 0), (15, .iload 4, 2, [], 0), (17, .if_icmp .gt 33, 3, [50], 0), (20, .iload 5, 2, [], 0), (22, .aload_n 0, 1, [], 0), (23, .getfield 9, 3, [6, 4, 294], 0), (26, .arraylength, 1, [], 0), (27, .if_icmp .ge 23, 3, [50], 0), (30, .aload_n 0, 1, [], 0), (31, .getfield 9, 3, [6, 4, 294], 0), (34, .iload 5, 2, [], 0), (36, .aload_n 1, 1, [], 0), (37, .iload 5, 2, [], 0), (39, .iload_n 3, 1, [], 0), (40, .invokestatic 21, 3, [56, 3, 0, 807, 808], 0), (43, .iastore, 1, [], 0), (44, .iinc 5 1, 3, [], 0), (47, .goto (-34), 3, [13], 0), (50, .aload_n 0, 1, [], 0), (51, .iload 4, 2, [], 0), (53, .ifCond .ne 7, 3, [60], 0), (56, .iconst 0, 1, [], 0), (57, .goto 4, 3, [61], 0), (60, .iconst (-1), 1, [], 0), (61, .putfield 25, 3, [6, 0, 289], 0), (64, .iconst 1, 1, [], 0), (65, .istore 5, 2, [], 0), (67, .iload 5, 2, [], 0), (69, .iload 4, 2, [], 0), (71, .if_icmp .gt 64, 3, [135], 0), (74, .iload 4, 2, [], 0), (76, .iload 5, 2, [], 0), (78, .iconst (-1), 1, [], 0), (79, .ixor, 1, [], 0), (80, .iand, 1, [], 0), (81, .istore 6, 2, [], 0), (83, .iload 6, 2, [], 0), (85, .ifCond .ne 14, 3, [99], 0), (88, .aload_n 0, 1, [], 0), (89, .iload 5, 2, [], 0), (91, .iconst 0, 1, [], 0), (92, .iconst 0, 1, [], 0), (93, .invokevirtual 28, 3, [55, 3, 6, 814, 816, 28], 0), (96, .goto 33, 3, [129], 0), (99, .iload_n 2, 1, [], 0), (100, .iconst 2, 1, [], 0), (101, .if_icmp .ne 15, 3, [116], 0), (104, .aload_n 0, 1, [], 0), (105, .iload 5, 2, [], 0), (107, .iload 6, 2, [], 0), (109, .iconst 0, 1, [], 0)]
def P_X6_part_c1 : List (Nat × mE) := [(110, .invokevirtual 28, 3, [55, 3, 6, 814, 816, 28], 0), (113, .goto 16, 3, [129], 0), (116, .iload_n 2, 1, [], 0), (117, .iconst 3, 1, [], 0), (118, .if_icmp .ne 11, 3, [129], 0), (121, .aload_n 0, 1, [], 0), (122, .iload 5, 2, [], 0), (124, .iload 6, 2, [], 0), (126, .invokevirtual 32, 3, [54, 2, 6, 818, 820, 29], 0), (129, .iinc 5 2, 3, [], 0), (132, .goto (-65), 3, [67], 0), (135, .return_, 1, [], 0)]
def P_X6_part : List (Nat × mE) := P_X6_part_c0 ++ (P_X6_part_c1)
def P_X6_partRest : List (Nat × mE) := [(0, .iload_n 2, 1, [], 0), (1, .iload_n 2, 1, [], 0), (2, .ineg, 1, [], 0), (3, .iand, 1, [], 0), (4, .istore_n 3, 1, [], 0), (5, .iload_n 3, 1, [], 0), (6, .istore 4, 2, [], 0), (8, .iload 4, 2, [], 0), (10, .iload_n 2, 1, [], 0), (11, .if_icmp .gt 38, 3, [49], 0), (14, .iload 4, 2, [], 0), (16, .iload_n 2, 1, [], 0), (17, .iconst (-1), 1, [], 0), (18, .ixor, 1, [], 0), (19, .iand, 1, [], 0), (20, .ifCond .ne 23, 3, [43], 0), (23, .iload 4, 2, [], 0), (25, .iload_n 3, 1, [], 0), (26, .iand, 1, [], 0), (27, .ifCond .eq 16, 3, [43], 0), (30, .aload_n 0, 1, [], 0), (31, .iload_n 1, 1, [], 0), (32, .iload 4, 2, [], 0), (34, .iload_n 2, 1, [], 0), (35, .iload 4, 2, [], 0), (37, .iconst (-1), 1, [], 0), (38, .ixor, 1, [], 0), (39, .iand, 1, [], 0), (40, .invokevirtual 28, 3, [55, 3, 6, 814, 816, 28], 0), (43, .iinc 4 1, 3, [], 0), (46, .goto (-38), 3, [8], 0), (49, .return_, 1, [], 0)]
def P_X6_offer : List (Nat × mE) := [(0, .aload_n 0, 1, [], 0), (1, .getfield 9, 3, [6, 4, 294], 0), (4, .iload_n 1, 1, [], 0), (5, .invokestatic 36, 3, [124, 2, 1, 811, 460], 0), (8, .aload_n 0, 1, [], 0), (9, .getfield 9, 3, [6, 4, 294], 0), (12, .iload_n 2, 1, [], 0), (13, .invokestatic 36, 3, [124, 2, 1, 811, 460], 0), (16, .iadd, 1, [], 0), (17, .aload_n 0, 1, [], 0), (18, .getfield 9, 3, [6, 4, 294], 0), (21, .iload_n 3, 1, [], 0), (22, .invokestatic 36, 3, [124, 2, 1, 811, 460], 0), (25, .iadd, 1, [], 0), (26, .istore 4, 2, [], 0), (28, .iload 4, 2, [], 0), (30, .aload_n 0, 1, [], 0), (31, .getfield 25, 3, [6, 0, 289], 0), (34, .if_icmp .le 24, 3, [58], 0), (37, .aload_n 0, 1, [], 0), (38, .iload 4, 2, [], 0), (40, .putfield 25, 3, [6, 0, 289], 0), (43, .aload_n 0, 1, [], 0), (44, .iload_n 1, 1, [], 0), (45, .putfield 40, 3, [6, 1, 291], 0), (48, .aload_n 0, 1, [], 0), (49, .iload_n 2, 1, [], 0), (50, .putfield 43, 3, [6, 2, 292], 0), (53, .aload_n 0, 1, [], 0), (54, .iload_n 3, 1, [], 0), (55, .putfield 46, 3, [6, 3, 293], 0), (58, .return_, 1, [], 0)]
def P_X6_weigh : List (Nat × mE) := [(0, .iconst 0, 1, [], 0), (1, .istore_n 3, 1, [], 0), (2, .iconst 0, 1, [], 0), (3, .istore 4, 2, [], 0), (5, .iconst 0, 1, [], 0), (6, .istore 5, 2, [], 0), (8, .iload 5, 2, [], 0), (10, .aload_n 0, 1, [], 0), (11, .getfield 15, 3, [1, 0, 131], 0), (14, .if_icmp .ge 46, 3, [60], 0), (17, .iload_n 1, 1, [], 0), (18, .iload 5, 2, [], 0), (20, .invokestatic 49, 3, [122, 2, 1, 810, 624], 0), (23, .ifCond .eq 31, 3, [54], 0), (26, .iload_n 3, 1, [], 0), (27, .aload_n 0, 1, [], 0), (28, .getfield 53, 3, [1, 4, 147], 0), (31, .iload 5, 2, [], 0), (33, .invokestatic 36, 3, [124, 2, 1, 811, 460], 0), (36, .invokestatic 56, 3, [3, 2, 0, 812, 672], 0), (39, .istore_n 3, 1, [], 0), (40, .iload 4, 2, [], 0), (42, .aload_n 0, 1, [], 0), (43, .getfield 62, 3, [1, 3, 144], 0), (46, .iload 5, 2, [], 0), (48, .invokestatic 36, 3, [124, 2, 1, 811, 460], 0), (51, .iadd, 1, [], 0), (52, .istore 4, 2, [], 0), (54, .iinc 5 1, 3, [], 0), (57, .goto (-49), 3, [8], 0), (60, .iload_n 2, 1, [], 0), (61, .iload_n 3, 1, [], 0), (62, .invokestatic 65, 3, [128, 2, 1, 813, 669], 0), (65, .iload 4, 2, [], 0), (67, .imul, 1, [], 0), (68, .ireturn, 1, [], 0)]
def P_X6_ringOf : List (Nat × mE) := [(0, .aload_n 0, 1, [], 0), (1, .getfield 40, 3, [6, 1, 291], 0), (4, .iload_n 1, 1, [], 0), (5, .invokestatic 49, 3, [122, 2, 1, 810, 624], 0), (8, .ifCond .eq 8, 3, [16], 0), (11, .aload_n 0, 1, [], 0), (12, .getfield 40, 3, [6, 1, 291], 0), (15, .ireturn, 1, [], 0), (16, .aload_n 0, 1, [], 0), (17, .getfield 43, 3, [6, 2, 292], 0), (20, .iload_n 1, 1, [], 0), (21, .invokestatic 49, 3, [122, 2, 1, 810, 624], 0), (24, .ifCond .eq 10, 3, [34], 0), (27, .aload_n 0, 1, [], 0), (28, .getfield 43, 3, [6, 2, 292], 0), (31, .goto 7, 3, [38], 0), (34, .aload_n 0, 1, [], 0), (35, .getfield 46, 3, [6, 3, 293], 0), (38, .ireturn, 1, [], 0)]
def P_X7_hasRoomFor : List (Nat × mE) := [(0, .aload_n 0, 1, [], 0), (1, .getfield 21, 3, [7, 0, 103], 0), (4, .iload_n 1, 1, [], 0), (5, .iadd, 1, [], 0), (6, .sipush 300, 3, [], 0), (9, .if_icmp .gt 7, 3, [16], 0), (12, .iconst 1, 1, [], 0), (13, .goto 4, 3, [17], 0), (16, .iconst 0, 1, [], 0), (17, .ireturn, 1, [], 0)]
def P_X7_append : List (Nat × mE) := [(0, .iload_n 3, 1, [], 0), (1, .iconst 1, 1, [], 0), (2, .isub, 1, [], 0), (3, .istore 4, 2, [], 0), (5, .iload 4, 2, [], 0), (7, .ifCond .lt 42, 3, [49], 0), (10, .aload_n 0, 1, [], 0), (11, .getfield 9, 3, [7, 1, 105], 0), (14, .aload_n 0, 1, [], 0), (15, .getfield 21, 3, [7, 0, 103], 0), (18, .lload_n 1, 1, [], 0), (19, .bipush 8, 2, [], 0), (21, .iload 4, 2, [], 0), (23, .imul, 1, [], 0), (24, .lushr, 1, [], 0), (25, .l2i, 1, [], 0), (26, .sipush 255, 3, [], 0), (29, .iand, 1, [], 0), (30, .invokestatic 25, 3, [125, 3, 1, 432, 433], 0), (33, .aload_n 0, 1, [], 0), (34, .dup, 1, [], 0), (35, .getfield 21, 3, [7, 0, 103], 0), (38, .iconst 1, 1, [], 0), (39, .iadd, 1, [], 0), (40, .putfield 21, 3, [7, 0, 103], 0), (43, .iinc 4 (-1), 3, [], 0), (46, .goto (-41), 3, [5], 0), (49, .return_, 1, [], 0)]
def P_X7_wipe : List (Nat × mE) := [(0, .aload_n 0, 1, [], 0), (1, .getfield 21, 3, [7, 0, 103], 0), (4, .istore_n 1, 1, [], 0), (5, .aload_n 0, 1, [], 0), (6, .iconst 0, 1, [], 0), (7, .putfield 21, 3, [7, 0, 103], 0), (10, .iload_n 1, 1, [], 0), (11, .ireturn, 1, [], 0)]
def P_X7_readInto : List (Nat × mE) := [(0, .aload_n 0, 1, [], 0), (1, .invokevirtual 29, 3, [70, 0, 7, 451, 453, 0], 0), (4, .aload_n 1, 1, [], 0), (5, .invokevirtual 32, 3, [19, 0, 1, 541, 542, 543], 0), (8, .aload_n 0, 1, [], 0), (9, .iconst 0, 1, [], 0), (10, .putfield 37, 3, [7, 4, 108], 0), (13, .aload_n 0, 1, [], 0), (14, .iconst 0, 1, [], 0), (15, .putfield 40, 3, [7, 5, 109], 0), (18, .iconst 0, 1, [], 0), (19, .istore_n 2, 1, [], 0), (20, .iload_n 2, 1, [], 0), (21, .sipush 300, 3, [], 0), (24, .if_icmp .ge 37, 3, [61], 0), (27, .aload_n 0, 1, [], 0), (28, .getfield 40, 3, [7, 5, 109], 0), (31, .ifCond .ne 30, 3, [61], 0), (34, .aload_n 0, 1, [], 0), (35, .getfield 15, 3, [7, 2, 106], 0), (38, .aload_n 0, 1, [], 0), (39, .getfield 37, 3, [7, 4, 108], 0), (42, .invokestatic 44, 3, [124, 2, 1, 459, 460], 0), (45, .bipush 100, 2, [], 0), (47, .if_icmp .eq 14, 3, [61], 0), (50, .aload_n 0, 1, [], 0), (51, .aload_n 1, 1, [], 0), (52, .invokevirtual 48, 3, [62, 1, 7, 545, 547, 7], 0), (55, .iinc 2 1, 3, [], 0), (58, .goto (-38), 3, [20], 0), (61, .aload_n 0, 1, [], 0), (62, .getfield 40, 3, [7, 5, 109], 0), (65, .ifCond .eq 17, 3, [82], 0), (68, .aload_n 0, 1, [], 0), (69, .getfield 18, 3, [7, 3, 107], 0), (72, .aload_n 0, 1, [], 0), (73, .getfield 37, 3, [7, 4, 108], 0), (76, .invokestatic 44, 3, [124, 2, 1, 459, 460], 0), (79, .goto 4, 3, [83], 0), (82, .iconst (-1), 1, [], 0), (83, .ireturn, 1, [], 0)]
def P_X7_readItem : List (Nat × mE) := [(0, .aload_n 0, 1, [], 0), (1, .getfield 15, 3, [7, 2, 106], 0), (4, .aload_n 0, 1, [], 0), (5, .getfield 37, 3, [7, 4, 108], 0), (8, .invokestatic 44, 3, [124, 2, 1, 459, 460], 0), (11, .tableswitch 49 103 105 #[25, 33, 41], 25, [], 0), (36, .aload_n 0, 1, [], 0), (37, .aload_n 1, 1, [], 0), (38, .invokevirtual 52, 3, [63, 1, 7, 549, 551, 8], 0), (41, .goto 24, 3, [65], 0), (44, .aload_n 0, 1, [], 0), (45, .aload_n 1, 1, [], 0), (46, .invokevirtual 55, 3, [64, 1, 7, 578, 580, 13], 0), (49, .goto 16, 3, [65], 0), (52, .aload_n 0, 1, [], 0), (53, .aload_n 1, 1, [], 0), (54, .invokevirtual 58, 3, [65, 1, 7, 586, 588, 14], 0), (57, .goto 8, 3, [65], 0), (60, .aload_n 0, 1, [], 0), (61, .iconst 1, 1, [], 0), (62, .putfield 40, 3, [7, 5, 109], 0), (65, .return_, 1, [], 0)]
def P_X7_readDigger : List (Nat × mE) := [(0, .aload_n 0, 1, [], 0), (1, .aload_n 1, 1, [], 0), (2, .getfield 61, 3, [1, 0, 134], 0), (5, .bipush 6, 2, [], 0), (7, .if_icmp .ge 7, 3, [14], 0), (10, .iconst 1, 1, [], 0), (11, .goto 4, 3, [15], 0), (14, .iconst 0, 1, [], 0), (15, .invokevirtual 64, 3, [66, 1, 7, 553, 555, 9], 0), (18, .aload_n 0, 1, [], 0), (19, .bipush 9, 2, [], 0), (21, .invokevirtual 68, 3, [67, 1, 7, 557, 559, 10], 0), (24, .istore_n 2, 1, [], 0), (25, .aload_n 0, 1, [], 0), (26, .bipush 9, 2, [], 0), (28, .invokevirtual 68, 3, [67, 1, 7, 557, 559, 10], 0), (31, .istore_n 3, 1, [], 0), (32, .aload_n 0, 1, [], 0), (33, .bipush 107, 2, [], 0), (35, .invokevirtual 72, 3, [69, 1, 7, 562, 564, 11], 0), (38, .istore 4, 2, [], 0), (40, .aload_n 0, 1, [], 0), (41, .invokevirtual 76, 3, [68, 0, 7, 566, 568, 12], 0), (44, .aload_n 0, 1, [], 0), (45, .getfield 40, 3, [7, 5, 109], 0), (48, .ifCond .ne 11, 3, [59], 0), (51, .aload_n 1, 1, [], 0), (52, .iload_n 2, 1, [], 0), (53, .iload_n 3, 1, [], 0), (54, .iload 4, 2, [], 0), (56, .invokevirtual 79, 3, [23, 3, 1, 570, 571, 572], 0), (59, .return_, 1, [], 0)]
def P_X7_readSpade : List (Nat × mE) := [(0, .aload_n 0, 1, [], 0), (1, .aload_n 1, 1, [], 0), (2, .getfield 83, 3, [1, 1, 139], 0), (5, .bipush 8, 2, [], 0), (7, .if_icmp .ge 7, 3, [14], 0), (10, .iconst 1, 1, [], 0), (11, .goto 4, 3, [15], 0), (14, .iconst 0, 1, [], 0), (15, .invokevirtual 64, 3, [66, 1, 7, 553, 555, 9], 0), (18, .aload_n 0, 1, [], 0), (19, .bipush 9, 2, [], 0), (21, .invokevirtual 68, 3, [67, 1, 7, 557, 559, 10], 0), (24, .istore_n 2, 1, [], 0), (25, .aload_n 0, 1, [], 0), (26, .bipush 106, 2, [], 0), (28, .invokevirtual 72, 3, [69, 1, 7, 562, 564, 11], 0), (31, .ifCond .eq 7, 3, [38], 0), (34, .iconst 1, 1, [], 0), (35, .goto 17, 3, [52], 0), (38, .aload_n 0, 1, [], 0), (39, .bipush 107, 2, [], 0), (41, .invokevirtual 72, 3, [69, 1, 7, 562, 564, 11], 0), (44, .ifCond .eq 7, 3, [51], 0), (47, .iconst 2, 1, [], 0), (48, .goto 4, 3, [52], 0), (51, .iconst 0, 1, [], 0), (52, .istore_n 3, 1, [], 0), (53, .aload_n 0, 1, [], 0), (54, .invokevirtual 76, 3, [68, 0, 7, 566, 568, 12], 0), (57, .aload_n 0, 1, [], 0), (58, .getfield 40, 3, [7, 5, 109], 0), (61, .ifCond .ne 9, 3, [70], 0), (64, .aload_n 1, 1, [], 0), (65, .iload_n 2, 1, [], 0), (66, .iload_n 3, 1, [], 0), (67, .invokevirtual 86, 3, [24, 2, 1, 582, 583, 584], 0), (70, .return_, 1, [], 0)]
def P_X7_readYard : List (Nat × mE) := [(0, .aload_n 0, 1, [], 0), (1, .aload_n 1, 1, [], 0), (2, .getfield 90, 3, [1, 2, 142], 0), (5, .bipush 8, 2, [], 0), (7, .if_icmp .ge 7, 3, [14], 0), (10, .iconst 1, 1, [], 0), (11, .goto 4, 3, [15], 0), (14, .iconst 0, 1, [], 0), (15, .invokevirtual 64, 3, [66, 1, 7, 553, 555, 9], 0), (18, .aload_n 0, 1, [], 0), (19, .bipush 99, 2, [], 0), (21, .invokevirtual 68, 3, [67, 1, 7, 557, 559, 10], 0), (24, .istore_n 2, 1, [], 0), (25, .aload_n 0, 1, [], 0), (26, .bipush 9, 2, [], 0), (28, .invokevirtual 68, 3, [67, 1, 7, 557, 559, 10], 0), (31, .istore_n 3, 1, [], 0), (32, .aload_n 0, 1, [], 0), (33, .invokevirtual 76, 3, [68, 0, 7, 566, 568, 12], 0), (36, .aload_n 0, 1, [], 0), (37, .getfield 40, 3, [7, 5, 109], 0), (40, .ifCond .ne 9, 3, [49], 0), (43, .aload_n 1, 1, [], 0), (44, .iload_n 2, 1, [], 0), (45, .iload_n 3, 1, [], 0), (46, .invokevirtual 93, 3, [25, 2, 1, 590, 591, 592], 0), (49, .return_, 1, [], 0)]
def P_X7_takeWord : List (Nat × mE) := [(0, .iload_n 1, 1, [], 0), (1, .ifCond .eq 16, 3, [17], 0), (4, .aload_n 0, 1, [], 0), (5, .dup, 1, [], 0), (6, .getfield 37, 3, [7, 4, 108], 0), (9, .iconst 1, 1, [], 0), (10, .iadd, 1, [], 0), (11, .putfield 37, 3, [7, 4, 108], 0), (14, .goto 8, 3, [22], 0), (17, .aload_n 0, 1, [], 0), (18, .iconst 1, 1, [], 0), (19, .putfield 40, 3, [7, 5, 109], 0), (22, .return_, 1, [], 0)]
def P_X7_takeNumber : List (Nat × mE) := [(0, .aload_n 0, 1, [], 0), (1, .getfield 15, 3, [7, 2, 106], 0), (4, .aload_n 0, 1, [], 0), (5, .getfield 37, 3, [7, 4, 108], 0), (8, .invokestatic 44, 3, [124, 2, 1, 459, 460], 0), (11, .istore_n 2, 1, [], 0), (12, .iload_n 2, 1, [], 0), (13, .iconst 1, 1, [], 0), (14, .iload_n 1, 1, [], 0), (15, .invokestatic 96, 3, [121, 3, 1, 561, 422], 0), (18, .ifCond .eq 11, 3, [29], 0), (21, .aload_n 0, 1, [], 0), (22, .iload_n 2, 1, [], 0), (23, .invokevirtual 72, 3, [69, 1, 7, 562, 564, 11], 0), (26, .ifCond .ne 8, 3, [34], 0), (29, .aload_n 0, 1, [], 0), (30, .iconst 1, 1, [], 0), (31, .putfield 40, 3, [7, 5, 109], 0), (34, .iload_n 2, 1, [], 0), (35, .ireturn, 1, [], 0)]
def P_X7_takeSemicolon : List (Nat × mE) := [(0, .aload_n 0, 1, [], 0), (1, .bipush 102, 2, [], 0), (3, .invokevirtual 72, 3, [69, 1, 7, 562, 564, 11], 0), (6, .ifCond .ne 8, 3, [14], 0), (9, .aload_n 0, 1, [], 0), (10, .iconst 1, 1, [], 0), (11, .putfield 40, 3, [7, 5, 109], 0), (14, .return_, 1, [], 0)]
def P_X7_takes : List (Nat × mE) := [(0, .aload_n 0, 1, [], 0), (1, .getfield 40, 3, [7, 5, 109], 0), (4, .ifCond .ne 18, 3, [22], 0), (7, .aload_n 0, 1, [], 0), (8, .getfield 15, 3, [7, 2, 106], 0), (11, .aload_n 0, 1, [], 0), (12, .getfield 37, 3, [7, 4, 108], 0), (15, .invokestatic 44, 3, [124, 2, 1, 459, 460], 0), (18, .iload_n 1, 1, [], 0), (19, .if_icmp .eq 5, 3, [24], 0), (22, .iconst 0, 1, [], 0), (23, .ireturn, 1, [], 0), (24, .aload_n 0, 1, [], 0), (25, .dup, 1, [], 0), (26, .getfield 37, 3, [7, 4, 108], 0), (29, .iconst 1, 1, [], 0), (30, .iadd, 1, [], 0), (31, .putfield 37, 3, [7, 4, 108], 0), (34, .iconst 1, 1, [], 0), (35, .ireturn, 1, [], 0)]
def P_X7_cutIntoTokens : List (Nat × mE) := [(0, .aload_n 0, 1, [], 0), (1, .iconst 0, 1, [], 0), (2, .invokevirtual 100, 3, [71, 1, 7, 455, 457, 1], 0), (5, .istore_n 1, 1, [], 0), (6, .iconst 0, 1, [], 0), (7, .istore_n 2, 1, [], 0), (8, .iload_n 2, 1, [], 0), (9, .sipush 300, 3, [], 0), (12, .if_icmp .ge 52, 3, [64], 0), (15, .iload_n 1, 1, [], 0), (16, .aload_n 0, 1, [], 0), (17, .getfield 21, 3, [7, 0, 103], 0), (20, .if_icmp .ge 44, 3, [64], 0), (23, .aload_n 0, 1, [], 0), (24, .iload_n 1, 1, [], 0), (25, .invokevirtual 103, 3, [72, 1, 7, 462, 464, 2], 0), (28, .istore_n 3, 1, [], 0), (29, .aload_n 0, 1, [], 0), (30, .getfield 15, 3, [7, 2, 106], 0), (33, .iload_n 2, 1, [], 0), (34, .aload_n 0, 1, [], 0), (35, .iload_n 1, 1, [], 0), (36, .iload_n 3, 1, [], 0), (37, .invokevirtual 106, 3, [73, 2, 7, 472, 474, 3], 0), (40, .invokestatic 25, 3, [125, 3, 1, 432, 433], 0), (43, .aload_n 0, 1, [], 0), (44, .getfield 18, 3, [7, 3, 107], 0), (47, .iload_n 2, 1, [], 0), (48, .iload_n 1, 1, [], 0), (49, .invokestatic 25, 3, [125, 3, 1, 432, 433], 0), (52, .aload_n 0, 1, [], 0), (53, .iload_n 3, 1, [], 0), (54, .invokevirtual 100, 3, [71, 1, 7, 455, 457, 1], 0), (57, .istore_n 1, 1, [], 0), (58, .iinc 2 1, 3, [], 0), (61, .goto (-53), 3, [8], 0), (64, .aload_n 0, 1, [], 0), (65, .getfield 15, 3, [7, 2, 106], 0), (68, .iload_n 2, 1, [], 0), (69, .bipush 100, 2, [], 0), (71, .invokestatic 25, 3, [125, 3, 1, 432, 433], 0), (74, .aload_n 0, 1, [], 0), (75, .getfield 18, 3, [7, 3, 107], 0), (78, .iload_n 2, 1, [], 0), (79, .aload_n 0, 1, [], 0), (80, .getfield 21, 3, [7, 0, 103], 0), (83, .invokestatic 25, 3, [125, 3, 1, 432, 433], 0), (86, .return_, 1, [], 0)]
def P_X7_behindBlanks : List (Nat × mE) := [(0, .iload_n 1, 1, [], 0), (1, .istore_n 2, 1, [], 0), (2, .iload_n 2, 1, [], 0), (3, .aload_n 0, 1, [], 0), (4, .getfield 21, 3, [7, 0, 103], 0), (7, .if_icmp .ge 22, 3, [29], 0), (10, .aload_n 0, 1, [], 0), (11, .getfield 9, 3, [7, 1, 105], 0), (14, .iload_n 2, 1, [], 0), (15, .invokestatic 44, 3, [124, 2, 1, 459, 460], 0), (18, .bipush 32, 2, [], 0), (20, .if_icmp .ne 9, 3, [29], 0), (23, .iinc 2 1, 3, [], 0), (26, .goto (-24), 3, [2], 0), (29, .iload_n 2, 1, [], 0), (30, .ireturn, 1, [], 0)]
def P_X7_endOfToken : List (Nat × mE) := [(0, .iload_n 1, 1, [], 0), (1, .iconst 1, 1, [], 0), (2, .iadd, 1, [], 0), (3, .istore_n 2, 1, [], 0), (4, .aload_n 0, 1, [], 0), (5, .getfield 9, 3, [7, 1, 105], 0), (8, .iload_n 1, 1, [], 0), (9, .invokestatic 44, 3, [124, 2, 1, 459, 460], 0), (12, .invokestatic 110, 3, [77, 1, 0, 466, 467], 0), (15, .ifCond .eq 31, 3, [46], 0), (18, .iload_n 2, 1, [], 0), (19, .aload_n 0, 1, [], 0), (20, .getfield 21, 3, [7, 0, 103], 0), (23, .if_icmp .ge 65, 3, [88], 0), (26, .aload_n 0, 1, [], 0), (27, .getfield 9, 3, [7, 1, 105], 0), (30, .iload_n 2, 1, [], 0), (31, .invokestatic 44, 3, [124, 2, 1, 459, 460], 0), (34, .invokestatic 110, 3, [77, 1, 0, 466, 467], 0), (37, .ifCond .eq 51, 3, [88], 0), (40, .iinc 2 1, 3, [], 0), (43, .goto (-25), 3, [18], 0), (46, .aload_n 0, 1, [], 0), (47, .getfield 9, 3, [7, 1, 105], 0), (50, .iload_n 1, 1, [], 0), (51, .invokestatic 44, 3, [124, 2, 1, 459, 460], 0), (54, .invokestatic 113, 3, [78, 1, 0, 469, 470], 0), (57, .ifCond .eq 31, 3, [88], 0), (60, .iload_n 2, 1, [], 0), (61, .aload_n 0, 1, [], 0), (62, .getfield 21, 3, [7, 0, 103], 0), (65, .if_icmp .ge 23, 3, [88], 0), (68, .aload_n 0, 1, [], 0), (69, .getfield 9, 3, [7, 1, 105], 0), (72, .iload_n 2, 1, [], 0), (73, .invokestatic 44, 3, [124, 2, 1, 459, 460], 0), (76, .invokestatic 113, 3, [78, 1, 0, 469, 470], 0), (79, .ifCond .eq 9, 3, [88], 0), (82, .iinc 2 1, 3, [], 0), (85, .goto (-25), 3, [60], 0), (88, .iload_n 2, 1, [], 0), (89, .ireturn, 1, [], 0)]
def P_X7_tokenOf : List (Nat × mE) := [(0, .aload_n 0, 1, [], 0), (1, .getfield 9, 3, [7, 1, 105], 0), (4, .iload_n 1, 1, [], 0), (5, .invokestatic 44, 3, [124, 2, 1, 459, 460], 0), (8, .istore_n 3, 1, [], 0), (9, .iload_n 3, 1, [], 0), (10, .invokestatic 113, 3, [78, 1, 0, 469, 470], 0), (13, .ifCond .eq 10, 3, [23], 0), (16, .aload_n 0, 1, [], 0), (17, .iload_n 1, 1, [], 0), (18, .iload_n 2, 1, [], 0), (19, .invokevirtual 116, 3, [74, 2, 7, 476, 478, 4], 0), (22, .ireturn, 1, [], 0), (23, .iload_n 3, 1, [], 0), (24, .invokestatic 110, 3, [77, 1, 0, 466, 467], 0), (27, .ifCond .eq 10, 3, [37], 0), (30, .aload_n 0, 1, [], 0), (31, .iload_n 1, 1, [], 0), (32, .iload_n 2, 1, [], 0), (33, .invokevirtual 119, 3, [75, 2, 7, 480, 482, 5], 0), (36, .ireturn, 1, [], 0), (37, .iload_n 3, 1, [], 0), (38, .bipush 59, 2, [], 0), (40, .if_icmp .ne 8, 3, [48], 0), (43, .bipush 102, 2, [], 0), (45, .goto 5, 3, [50], 0), (48, .bipush 101, 2, [], 0), (50, .ireturn, 1, [], 0)]
def P_X7_numberOf : List (Nat × mE) := [(0, .iload_n 2, 1, [], 0), (1, .iload_n 1, 1, [], 0), (2, .isub, 1, [], 0), (3, .istore_n 3, 1, [], 0), (4, .aload_n 0, 1, [], 0), (5, .getfield 9, 3, [7, 1, 105], 0), (8, .iload_n 1, 1, [], 0), (9, .invokestatic 44, 3, [124, 2, 1, 459, 460], 0), (12, .bipush 48, 2, [], 0), (14, .isub, 1, [], 0), (15, .istore 4, 2, [], 0), (17, .iload_n 3, 1, [], 0), (18, .iconst 1, 1, [], 0), (19, .if_icmp .ne 6, 3, [25], 0), (22, .iload 4, 2, [], 0), (24, .ireturn, 1, [], 0), (25, .iload_n 3, 1, [], 0), (26, .iconst 2, 1, [], 0), (27, .if_icmp .gt 8, 3, [35], 0), (30, .iload 4, 2, [], 0), (32, .ifCond .ne 8, 3, [40], 0), (35, .bipush 101, 2, [], 0), (37, .goto 22, 3, [59], 0), (40, .iload 4, 2, [], 0), (42, .bipush 10, 2, [], 0), (44, .imul, 1, [], 0), (45, .aload_n 0, 1, [], 0), (46, .getfield 9, 3, [7, 1, 105], 0), (49, .iload_n 1, 1, [], 0), (50, .iconst 1, 1, [], 0), (51, .iadd, 1, [], 0), (52, .invokestatic 44, 3, [124, 2, 1, 459, 460], 0), (55, .iadd, 1, [], 0), (56, .bipush 48, 2, [], 0), (58, .isub, 1, [], 0), (59, .ireturn, 1, [], 0)]
def P_X7_wordOf : List (Nat × mE) := [(0, .aload_n 0, 1, [], 0), (1, .ldc 122, 2, [1, 0], 0), (3, .iload_n 1, 1, [], 0), (4, .iload_n 2, 1, [], 0), (5, .invokevirtual 124, 3, [76, 3, 7, 485, 487, 6], 0), (8, .ifCond .eq 6, 3, [14], 0), (11, .bipush 103, 2, [], 0), (13, .ireturn, 1, [], 0), (14, .aload_n 0, 1, [], 0), (15, .ldc 128, 2, [1, 1], 0), (17, .iload_n 1, 1, [], 0), (18, .iload_n 2, 1, [], 0), (19, .invokevirtual 124, 3, [76, 3, 7, 485, 487, 6], 0), (22, .ifCond .eq 6, 3, [28], 0), (25, .bipush 104, 2, [], 0), (27, .ireturn, 1, [], 0), (28, .aload_n 0, 1, [], 0), (29, .ldc 130, 2, [1, 2], 0), (31, .iload_n 1, 1, [], 0), (32, .iload_n 2, 1, [], 0), (33, .invokevirtual 124, 3, [76, 3, 7, 485, 487, 6], 0), (36, .ifCond .eq 6, 3, [42], 0), (39, .bipush 105, 2, [], 0), (41, .ireturn, 1, [], 0), (42, .aload_n 0, 1, [], 0), (43, .ldc 132, 2, [1, 3], 0), (45, .iload_n 1, 1, [], 0), (46, .iload_n 2, 1, [], 0), (47, .invokevirtual 124, 3, [76, 3, 7, 485, 487, 6], 0), (50, .ifCond .eq 6, 3, [56], 0), (53, .bipush 106, 2, [], 0), (55, .ireturn, 1, [], 0), (56, .aload_n 0, 1, [], 0), (57, .ldc 134, 2, [1, 4], 0), (59, .iload_n 1, 1, [], 0), (60, .iload_n 2, 1, [], 0), (61, .invokevirtual 124, 3, [76, 3, 7, 485, 487, 6], 0), (64, .ifCond .eq 8, 3, [72], 0), (67, .bipush 107, 2, [], 0), (69, .goto 5, 3, [74], 0), (72, .bipush 101, 2, [], 0), (74, .ireturn, 1, [], 0)]
def P_X7_isWord : List (Nat × mE) := [(0, .iload_n 3, 1, [], 0), (1, .iload_n 2, 1, [], 0), (2, .isub, 1, [], 0), (3, .aload_n 1, 1, [], 0), (4, .invokevirtual 136, 3, [5, 0, 50, 489, 490, 491], 0), (7, .if_icmp .eq 5, 3, [12], 0), (10, .iconst 0, 1, [], 0), (11, .ireturn, 1, [], 0), (12, .iconst 0, 1, [], 0), (13, .istore 4, 2, [], 0), (15, .iload 4, 2, [], 0), (17, .aload_n 1, 1, [], 0), (18, .invokevirtual 136, 3, [5, 0, 50, 489, 490, 491], 0), (21, .if_icmp .ge 31, 3, [52], 0), (24, .aload_n 0, 1, [], 0), (25, .getfield 9, 3, [7, 1, 105], 0), (28, .iload_n 2, 1, [], 0), (29, .iload 4, 2, [], 0), (31, .iadd, 1, [], 0), (32, .invokestatic 44, 3, [124, 2, 1, 459, 460], 0), (35, .aload_n 1, 1, [], 0), (36, .iload 4, 2, [], 0), (38, .invokevirtual 141, 3, [7, 1, 50, 499, 500, 501], 0), (41, .if_icmp .eq 5, 3, [46], 0), (44, .iconst 0, 1, [], 0), (45, .ireturn, 1, [], 0), (46, .iinc 4 1, 3, [], 0), (49, .goto (-34), 3, [15], 0), (52, .iconst 1, 1, [], 0), (53, .ireturn, 1, [], 0)]
def P_X7_isLetter : List (Nat × mE) := [(0, .iload_n 0, 1, [], 0), (1, .bipush 97, 2, [], 0), (3, .if_icmp .lt 13, 3, [16], 0), (6, .iload_n 0, 1, [], 0), (7, .bipush 122, 2, [], 0), (9, .if_icmp .gt 7, 3, [16], 0), (12, .iconst 1, 1, [], 0), (13, .goto 4, 3, [17], 0), (16, .iconst 0, 1, [], 0), (17, .ireturn, 1, [], 0)]
def P_X7_isDigit : List (Nat × mE) := [(0, .iload_n 0, 1, [], 0), (1, .bipush 48, 2, [], 0), (3, .if_icmp .lt 13, 3, [16], 0), (6, .iload_n 0, 1, [], 0), (7, .bipush 57, 2, [], 0), (9, .if_icmp .gt 7, 3, [16], 0), (12, .iconst 1, 1, [], 0), (13, .goto 4, 3, [17], 0), (16, .iconst 0, 1, [], 0), (17, .ireturn, 1, [], 0)]
def P_X8_forget : List (Nat × mE) := [(0, .aload_n 0, 1, [], 0), (1, .iconst 0, 1, [], 0), (2, .putfield 21, 3, [8, 0, 363], 0), (5, .return_, 1, [], 0)]
def P_X8_add : List (Nat × mE) := [(0, .aload_n 0, 1, [], 0), (1, .getfield 21, 3, [8, 0, 363], 0), (4, .bipush 30, 2, [], 0), (6, .if_icmp .lt 5, 3, [11], 0), (9, .iconst 0, 1, [], 0), (10, .ireturn, 1, [], 0), (11, .aload_n 0, 1, [], 0), (12, .getfield 9, 3, [8, 1, 365], 0), (15, .aload_n 0, 1, [], 0), (16, .getfield 21, 3, [8, 0, 363], 0), (19, .iload_n 1, 1, [], 0), (20, .invokestatic 25, 3, [125, 3, 1, 909, 433], 0), (23, .aload_n 0, 1, [], 0), (24, .getfield 15, 3, [8, 2, 366], 0), (27, .aload_n 0, 1, [], 0), (28, .getfield 21, 3, [8, 0, 363], 0), (31, .iload_n 2, 1, [], 0), (32, .invokestatic 25, 3, [125, 3, 1, 909, 433], 0), (35, .aload_n 0, 1, [], 0), (36, .getfield 18, 3, [8, 3, 367], 0), (39, .aload_n 0, 1, [], 0), (40, .getfield 21, 3, [8, 0, 363], 0), (43, .iload_n 3, 1, [], 0), (44, .invokestatic 25, 3, [125, 3, 1, 909, 433], 0), (47, .aload_n 0, 1, [], 0), (48, .dup, 1, [], 0), (49, .getfield 21, 3, [8, 0, 363], 0), (52, .iconst 1, 1, [], 0), (53, .iadd, 1, [], 0), (54, .putfield 21, 3, [8, 0, 363], 0), (57, .iconst 1, 1, [], 0), (58, .ireturn, 1, [], 0)]
def P_X8_pairOf : List (Nat × mE) := [(0, .lconst 1, 1, [], 0), (1, .aload_n 0, 1, [], 0), (2, .getfield 15, 3, [8, 2, 366], 0), (5, .iload_n 1, 1, [], 0), (6, .invokestatic 29, 3, [124, 2, 1, 922, 460], 0), (9, .bipush 8, 2, [], 0), (11, .imul, 1, [], 0), (12, .aload_n 0, 1, [], 0), (13, .getfield 18, 3, [8, 3, 367], 0), (16, .iload_n 1, 1, [], 0), (17, .invokestatic 29, 3, [124, 2, 1, 922, 460], 0), (20, .iadd, 1, [], 0), (21, .lshl, 1, [], 0), (22, .lreturn, 1, [], 0)]
def P_X8_whoThrewTwice : List (Nat × mE) := [(0, .lconst 0, 1, [], 0), (1, .lstore_n 1, 1, [], 0), (2, .iconst 0, 1, [], 0), (3, .istore_n 3, 1, [], 0), (4, .iconst 0, 1, [], 0), (5, .istore 4, 2, [], 0), (7, .iload 4, 2, [], 0), (9, .aload_n 0, 1, [], 0), (10, .getfield 21, 3, [8, 0, 363], 0), (13, .if_icmp .ge 45, 3, [58], 0), (16, .lload_n 1, 1, [], 0), (17, .aload_n 0, 1, [], 0), (18, .iload 4, 2, [], 0), (20, .invokevirtual 33, 3, [81, 1, 8, 918, 920, 33], 0), (23, .land, 1, [], 0), (24, .lconst 0, 1, [], 0), (25, .lcmp, 1, [], 0), (26, .ifCond .eq 17, 3, [43], 0), (29, .iload_n 3, 1, [], 0), (30, .iconst 1, 1, [], 0), (31, .aload_n 0, 1, [], 0), (32, .getfield 15, 3, [8, 2, 366], 0), (35, .iload 4, 2, [], 0), (37, .invokestatic 29, 3, [124, 2, 1, 922, 460], 0), (40, .ishl, 1, [], 0), (41, .ior, 1, [], 0), (42, .istore_n 3, 1, [], 0), (43, .lload_n 1, 1, [], 0), (44, .aload_n 0, 1, [], 0), (45, .iload 4, 2, [], 0), (47, .invokevirtual 33, 3, [81, 1, 8, 918, 920, 33], 0), (50, .lor, 1, [], 0), (51, .lstore_n 1, 1, [], 0), (52, .iinc 4 1, 3, [], 0), (55, .goto (-48), 3, [7], 0), (58, .iload_n 3, 1, [], 0), (59, .ireturn, 1, [], 0)]
def P_X8_falseRounds : List (Nat × mE) := [(0, .iconst 0, 1, [], 0), (1, .istore_n 1, 1, [], 0), (2, .iconst 0, 1, [], 0), (3, .istore_n 2, 1, [], 0), (4, .iload_n 2, 1, [], 0), (5, .bipush 99, 2, [], 0), (7, .if_icmp .gt 20, 3, [27], 0), (10, .aload_n 0, 1, [], 0), (11, .iload_n 2, 1, [], 0), (12, .invokevirtual 37, 3, [84, 1, 8, 927, 929, 34], 0), (15, .ifCond .eq 6, 3, [21], 0), (18, .iinc 1 1, 3, [], 0), (21, .iinc 2 1, 3, [], 0), (24, .goto (-20), 3, [4], 0), (27, .iload_n 1, 1, [], 0), (28, .ireturn, 1, [], 0)]
def P_X8_isFalse : List (Nat × mE) := [(0, .lconst 0, 1, [], 0), (1, .lstore_n 2, 1, [], 0), (2, .iconst 0, 1, [], 0), (3, .istore 4, 2, [], 0), (5, .iconst 0, 1, [], 0), (6, .istore 5, 2, [], 0), (8, .iconst 0, 1, [], 0), (9, .istore 6, 2, [], 0), (11, .iload 6, 2, [], 0), (13, .aload_n 0, 1, [], 0), (14, .getfield 21, 3, [8, 0, 363], 0), (17, .if_icmp .ge 63, 3, [80], 0), (20, .aload_n 0, 1, [], 0), (21, .getfield 9, 3, [8, 1, 365], 0), (24, .iload 6, 2, [], 0), (26, .invokestatic 29, 3, [124, 2, 1, 922, 460], 0), (29, .iload_n 1, 1, [], 0), (30, .if_icmp .ne 44, 3, [74], 0), (33, .lload_n 2, 1, [], 0), (34, .aload_n 0, 1, [], 0), (35, .iload 6, 2, [], 0), (37, .invokevirtual 33, 3, [81, 1, 8, 918, 920, 33], 0), (40, .lor, 1, [], 0), (41, .lstore_n 2, 1, [], 0), (42, .iload 4, 2, [], 0), (44, .iconst 1, 1, [], 0), (45, .aload_n 0, 1, [], 0), (46, .getfield 15, 3, [8, 2, 366], 0), (49, .iload 6, 2, [], 0), (51, .invokestatic 29, 3, [124, 2, 1, 922, 460], 0), (54, .ishl, 1, [], 0), (55, .ior, 1, [], 0), (56, .istore 4, 2, [], 0), (58, .iload 5, 2, [], 0), (60, .iconst 1, 1, [], 0), (61, .aload_n 0, 1, [], 0), (62, .getfield 18, 3, [8, 3, 367], 0), (65, .iload 6, 2, [], 0), (67, .invokestatic 29, 3, [124, 2, 1, 922, 460], 0), (70, .ishl, 1, [], 0), (71, .ior, 1, [], 0), (72, .istore 5, 2, [], 0), (74, .iinc 6 1, 3, [], 0), (77, .goto (-66), 3, [11], 0), (80, .lload_n 2, 1, [], 0), (81, .invokestatic 41, 3, [1, 1, 0, 931, 932], 0), (84, .istore 6, 2, [], 0), (86, .iload 6, 2, [], 0), (88, .iload 4, 2, [], 0), (90, .invokestatic 47, 3, [0, 1, 0, 937, 730], 0), (93, .if_icmp .gt 13, 3, [106], 0), (96, .iload 6, 2, [], 0), (98, .iload 5, 2, [], 0), (100, .invokestatic 47, 3, [0, 1, 0, 937, 730], 0), (103, .if_icmp .le 7, 3, [110], 0), (106, .iconst 1, 1, [], 0), (107, .goto 4, 3, [111], 0), (110, .iconst 0, 1, [], 0), (111, .ireturn, 1, [], 0)]
def P_X9_type : List (Nat × mE) := [(0, .iload_n 3, 1, [], 0), (1, .iconst 1, 1, [], 0), (2, .bipush 8, 2, [], 0), (4, .invokestatic 79, 3, [121, 3, 0, 421, 422], 0), (7, .ifCond .ne 5, 3, [12], 0), (10, .iconst (-1), 1, [], 0), (11, .ireturn, 1, [], 0), (12, .aload_n 0, 1, [], 0), (13, .getfield 10, 3, [9, 0, 377], 0), (16, .iload_n 3, 1, [], 0), (17, .invokevirtual 83, 3, [58, 1, 7, 424, 425, 426], 0), (20, .ifCond .ne 6, 3, [26], 0), (23, .bipush (-3), 2, [], 0), (25, .ireturn, 1, [], 0), (26, .aload_n 0, 1, [], 0), (27, .getfield 10, 3, [9, 0, 377], 0), (30, .lload_n 1, 1, [], 0), (31, .iload_n 3, 1, [], 0), (32, .invokevirtual 87, 3, [59, 2, 7, 428, 429, 430], 0), (35, .aload_n 0, 1, [], 0), (36, .getfield 10, 3, [9, 0, 377], 0), (39, .getfield 91, 3, [7, 0, 104], 0), (42, .ireturn, 1, [], 0)]
def P_X9_clear : List (Nat × mE) := [(0, .aload_n 0, 1, [], 0), (1, .getfield 10, 3, [9, 0, 377], 0), (4, .invokevirtual 95, 3, [60, 0, 7, 439, 440, 441], 0), (7, .ireturn, 1, [], 0)]
def P_X9_gang : List (Nat × mE) := [(0, .aload_n 0, 1, [], 0), (1, .getfield 10, 3, [9, 0, 377], 0), (4, .aload_n 0, 1, [], 0), (5, .getfield 23, 3, [9, 2, 379], 0), (8, .invokevirtual 99, 3, [61, 1, 7, 447, 448, 449], 0), (11, .istore_n 1, 1, [], 0), (12, .iload_n 1, 1, [], 0), (13, .iconst (-1), 1, [], 0), (14, .if_icmp .eq 8, 3, [22], 0), (17, .bipush (-10), 2, [], 0), (19, .iload_n 1, 1, [], 0), (20, .isub, 1, [], 0), (21, .ireturn, 1, [], 0), (22, .aload_n 0, 1, [], 0), (23, .getfield 19, 3, [9, 1, 378], 0), (26, .astore_n 2, 1, [], 0), (27, .aload_n 0, 1, [], 0), (28, .aload_n 0, 1, [], 0), (29, .getfield 23, 3, [9, 2, 379], 0), (32, .putfield 19, 3, [9, 1, 378], 0), (35, .aload_n 0, 1, [], 0), (36, .aload_n 2, 1, [], 0), (37, .putfield 23, 3, [9, 2, 379], 0), (40, .aload_n 0, 1, [], 0), (41, .getfield 10, 3, [9, 0, 377], 0), (44, .invokevirtual 95, 3, [60, 0, 7, 439, 440, 441], 0), (47, .pop, 1, [], 0), (48, .aload_n 0, 1, [], 0), (49, .getfield 29, 3, [9, 3, 380], 0), (52, .invokevirtual 103, 3, [45, 0, 5, 594, 595, 596], 0), (55, .aload_n 0, 1, [], 0), (56, .getfield 75, 3, [9, 11, 388], 0), (59, .invokevirtual 106, 3, [79, 0, 8, 601, 602, 603], 0), (62, .aload_n 0, 1, [], 0), (63, .iconst 0, 1, [], 0), (64, .putfield 109, 3, [9, 5, 382], 0), (67, .aload_n 0, 1, [], 0), (68, .getfield 19, 3, [9, 1, 378], 0), (71, .getfield 112, 3, [1, 0, 133], 0), (74, .aload_n 0, 1, [], 0), (75, .getfield 19, 3, [9, 1, 378], 0), (78, .getfield 115, 3, [1, 1, 138], 0), (81, .iadd, 1, [], 0), (82, .aload_n 0, 1, [], 0), (83, .getfield 19, 3, [9, 1, 378], 0), (86, .getfield 118, 3, [1, 2, 141], 0), (89, .iadd, 1, [], 0), (90, .ireturn, 1, [], 0)]
def P_X9_digger : List (Nat × mE) := [(0, .aload_n 0, 1, [], 0), (1, .getfield 19, 3, [9, 1, 378], 0), (4, .iload_n 1, 1, [], 0), (5, .invokevirtual 121, 3, [20, 1, 1, 610, 611, 612], 0), (8, .ifCond .ne 5, 3, [13], 0), (11, .iconst (-1), 1, [], 0), (12, .ireturn, 1, [], 0), (13, .iload_n 2, 1, [], 0), (14, .tableswitch 78 0 3 #[30, 42, 54, 66], 30, [], 0), (44, .aload_n 0, 1, [], 0), (45, .getfield 19, 3, [9, 1, 378], 0), (48, .getfield 124, 3, [1, 3, 145], 0), (51, .iload_n 1, 1, [], 0), (52, .invokestatic 128, 3, [124, 2, 0, 614, 460], 0), (55, .ireturn, 1, [], 0), (56, .aload_n 0, 1, [], 0), (57, .getfield 19, 3, [9, 1, 378], 0), (60, .getfield 132, 3, [1, 4, 148], 0), (63, .iload_n 1, 1, [], 0), (64, .invokestatic 128, 3, [124, 2, 0, 614, 460], 0), (67, .ireturn, 1, [], 0), (68, .aload_n 0, 1, [], 0), (69, .getfield 19, 3, [9, 1, 378], 0), (72, .getfield 135, 3, [1, 5, 151], 0), (75, .iload_n 1, 1, [], 0), (76, .invokestatic 128, 3, [124, 2, 0, 614, 460], 0), (79, .ireturn, 1, [], 0), (80, .aload_n 0, 1, [], 0), (81, .getfield 29, 3, [9, 3, 380], 0), (84, .getfield 138, 3, [5, 7, 204], 0), (87, .iload_n 1, 1, [], 0), (88, .invokestatic 128, 3, [124, 2, 0, 614, 460], 0), (91, .ireturn, 1, [], 0), (92, .iconst (-1), 1, [], 0), (93, .ireturn, 1, [], 0)]
def P_X9_spade : List (Nat × mE) := [(0, .aload_n 0, 1, [], 0), (1, .getfield 19, 3, [9, 1, 378], 0), (4, .iload_n 1, 1, [], 0), (5, .invokevirtual 141, 3, [21, 1, 1, 619, 620, 621], 0), (8, .ifCond .ne 5, 3, [13], 0), (11, .iconst (-1), 1, [], 0), (12, .ireturn, 1, [], 0), (13, .iload_n 2, 1, [], 0), (14, .tableswitch 65 0 2 #[26, 38, 50], 26, [], 0), (40, .aload_n 0, 1, [], 0), (41, .getfield 19, 3, [9, 1, 378], 0), (44, .getfield 144, 3, [1, 6, 153], 0), (47, .iload_n 1, 1, [], 0), (48, .invokestatic 128, 3, [124, 2, 0, 614, 460], 0), (51, .ireturn, 1, [], 0), (52, .aload_n 0, 1, [], 0), (53, .getfield 19, 3, [9, 1, 378], 0), (56, .getfield 147, 3, [1, 7, 155], 0), (59, .iload_n 1, 1, [], 0), (60, .invokestatic 128, 3, [124, 2, 0, 614, 460], 0), (63, .ireturn, 1, [], 0), (64, .aload_n 0, 1, [], 0), (65, .getfield 29, 3, [9, 3, 380], 0), (68, .getfield 150, 3, [5, 6, 202], 0), (71, .iload_n 1, 1, [], 0), (72, .invokestatic 153, 3, [122, 2, 0, 623, 624], 0), (75, .invokestatic 157, 3, [123, 1, 0, 626, 576], 0), (78, .ireturn, 1, [], 0), (79, .iconst (-1), 1, [], 0), (80, .ireturn, 1, [], 0)]
def P_X9_yard : List (Nat × mE) := [(0, .aload_n 0, 1, [], 0), (1, .getfield 19, 3, [9, 1, 378], 0), (4, .iload_n 1, 1, [], 0), (5, .invokevirtual 161, 3, [22, 1, 1, 631, 632, 633], 0), (8, .ifCond .ne 5, 3, [13], 0), (11, .iconst (-1), 1, [], 0), (12, .ireturn, 1, [], 0), (13, .iload_n 2, 1, [], 0), (14, .tableswitch 62 0 2 #[26, 38, 50], 26, [], 0), (40, .aload_n 0, 1, [], 0), (41, .getfield 19, 3, [9, 1, 378], 0), (44, .getfield 164, 3, [1, 8, 157], 0), (47, .iload_n 1, 1, [], 0), (48, .invokestatic 128, 3, [124, 2, 0, 614, 460], 0), (51, .ireturn, 1, [], 0), (52, .aload_n 0, 1, [], 0), (53, .getfield 19, 3, [9, 1, 378], 0), (56, .getfield 167, 3, [1, 9, 161], 0), (59, .iload_n 1, 1, [], 0), (60, .invokestatic 128, 3, [124, 2, 0, 614, 460], 0), (63, .ireturn, 1, [], 0), (64, .aload_n 0, 1, [], 0), (65, .getfield 29, 3, [9, 3, 380], 0), (68, .getfield 170, 3, [5, 8, 206], 0), (71, .iload_n 1, 1, [], 0), (72, .invokestatic 128, 3, [124, 2, 0, 614, 460], 0), (75, .ireturn, 1, [], 0), (76, .iconst (-1), 1, [], 0), (77, .ireturn, 1, [], 0)]
def P_X9_may : List (Nat × mE) := [(0, .aload_n 0, 1, [], 0), (1, .getfield 19, 3, [9, 1, 378], 0), (4, .iload_n 1, 1, [], 0), (5, .invokevirtual 121, 3, [20, 1, 1, 610, 611, 612], 0), (8, .ifCond .eq 14, 3, [22], 0), (11, .aload_n 0, 1, [], 0), (12, .getfield 19, 3, [9, 1, 378], 0), (15, .iload_n 2, 1, [], 0), (16, .invokevirtual 141, 3, [21, 1, 1, 619, 620, 621], 0), (19, .ifCond .ne 5, 3, [24], 0), (22, .iconst (-1), 1, [], 0), (23, .ireturn, 1, [], 0), (24, .aload_n 0, 1, [], 0), (25, .getfield 29, 3, [9, 3, 380], 0), (28, .aload_n 0, 1, [], 0), (29, .getfield 19, 3, [9, 1, 378], 0), (32, .iload_n 1, 1, [], 0), (33, .iload_n 2, 1, [], 0), (34, .invokevirtual 173, 3, [47, 3, 5, 639, 640, 641], 0), (37, .invokestatic 157, 3, [123, 1, 0, 626, 576], 0), (40, .ireturn, 1, [], 0)]
def P_X9_throwWith : List (Nat × mE) := [(0, .aload_n 0, 1, [], 0), (1, .getfield 19, 3, [9, 1, 378], 0), (4, .iload_n 1, 1, [], 0), (5, .invokevirtual 121, 3, [20, 1, 1, 610, 611, 612], 0), (8, .ifCond .eq 14, 3, [22], 0), (11, .aload_n 0, 1, [], 0), (12, .getfield 19, 3, [9, 1, 378], 0), (15, .iload_n 2, 1, [], 0), (16, .invokevirtual 141, 3, [21, 1, 1, 619, 620, 621], 0), (19, .ifCond .ne 5, 3, [24], 0), (22, .iconst (-1), 1, [], 0), (23, .ireturn, 1, [], 0), (24, .aload_n 0, 1, [], 0), (25, .getfield 29, 3, [9, 3, 380], 0), (28, .aload_n 0, 1, [], 0), (29, .getfield 19, 3, [9, 1, 378], 0), (32, .iload_n 1, 1, [], 0), (33, .iload_n 2, 1, [], 0), (34, .invokevirtual 177, 3, [48, 3, 5, 654, 655, 656], 0), (37, .ifCond .ne 6, 3, [43], 0), (40, .bipush (-2), 2, [], 0), (42, .ireturn, 1, [], 0), (43, .aload_n 0, 1, [], 0), (44, .getfield 29, 3, [9, 3, 380], 0), (47, .aload_n 0, 1, [], 0), (48, .getfield 19, 3, [9, 1, 378], 0), (51, .iload_n 1, 1, [], 0), (52, .iload_n 2, 1, [], 0), (53, .invokevirtual 180, 3, [49, 3, 5, 659, 660, 661], 0), (56, .istore_n 3, 1, [], 0), (57, .aload_n 0, 1, [], 0), (58, .getfield 29, 3, [9, 3, 380], 0), (61, .iload_n 1, 1, [], 0), (62, .iload_n 2, 1, [], 0), (63, .invokevirtual 184, 3, [50, 2, 5, 674, 675, 676], 0), (66, .aload_n 0, 1, [], 0), (67, .getfield 29, 3, [9, 3, 380], 0), (70, .aload_n 0, 1, [], 0), (71, .getfield 19, 3, [9, 1, 378], 0), (74, .iload_n 3, 1, [], 0), (75, .invokevirtual 188, 3, [51, 2, 5, 679, 680, 681], 0), (78, .iload_n 3, 1, [], 0), (79, .ireturn, 1, [], 0)]
def P_X9_ends : List (Nat × mE) := [(0, .aload_n 0, 1, [], 0), (1, .getfield 29, 3, [9, 3, 380], 0), (4, .aload_n 0, 1, [], 0), (5, .getfield 19, 3, [9, 1, 378], 0), (8, .invokevirtual 192, 3, [52, 1, 5, 690, 691, 692], 0), (11, .ireturn, 1, [], 0)]
def P_X9_breaks : List (Nat × mE) := [(0, .aload_n 0, 1, [], 0), (1, .getfield 19, 3, [9, 1, 378], 0), (4, .iload_n 1, 1, [], 0), (5, .invokevirtual 141, 3, [21, 1, 1, 619, 620, 621], 0), (8, .ifCond .ne 5, 3, [13], 0), (11, .iconst (-1), 1, [], 0), (12, .ireturn, 1, [], 0), (13, .aload_n 0, 1, [], 0), (14, .getfield 29, 3, [9, 3, 380], 0), (17, .getfield 150, 3, [5, 6, 202], 0), (20, .iload_n 1, 1, [], 0), (21, .invokestatic 153, 3, [122, 2, 0, 623, 624], 0), (24, .ifCond .eq 5, 3, [29], 0), (27, .iconst 0, 1, [], 0), (28, .ireturn, 1, [], 0), (29, .aload_n 0, 1, [], 0), (30, .getfield 29, 3, [9, 3, 380], 0), (33, .dup, 1, [], 0), (34, .getfield 150, 3, [5, 6, 202], 0), (37, .iconst 1, 1, [], 0), (38, .iload_n 1, 1, [], 0), (39, .ishl, 1, [], 0), (40, .ior, 1, [], 0), (41, .putfield 150, 3, [5, 6, 202], 0), (44, .iconst 1, 1, [], 0), (45, .ireturn, 1, [], 0)]
def P_X9_now : List (Nat × mE) := [(0, .iload_n 1, 1, [], 0), (1, .tableswitch 87 0 5 #[39, 47, 55, 63, 71, 79], 39, [], 0), (40, .aload_n 0, 1, [], 0), (41, .getfield 29, 3, [9, 3, 380], 0), (44, .getfield 195, 3, [5, 0, 190], 0), (47, .ireturn, 1, [], 0), (48, .aload_n 0, 1, [], 0), (49, .getfield 29, 3, [9, 3, 380], 0), (52, .getfield 198, 3, [5, 1, 192], 0), (55, .ireturn, 1, [], 0), (56, .aload_n 0, 1, [], 0), (57, .getfield 29, 3, [9, 3, 380], 0), (60, .getfield 201, 3, [5, 2, 194], 0), (63, .ireturn, 1, [], 0), (64, .aload_n 0, 1, [], 0), (65, .getfield 29, 3, [9, 3, 380], 0), (68, .getfield 204, 3, [5, 3, 196], 0), (71, .ireturn, 1, [], 0), (72, .aload_n 0, 1, [], 0), (73, .getfield 29, 3, [9, 3, 380], 0), (76, .getfield 207, 3, [5, 4, 198], 0), (79, .ireturn, 1, [], 0), (80, .aload_n 0, 1, [], 0), (81, .getfield 29, 3, [9, 3, 380], 0), (84, .getfield 210, 3, [5, 5, 200], 0), (87, .ireturn, 1, [], 0), (88, .iconst (-1), 1, [], 0), (89, .ireturn, 1, [], 0)]
def P_X9_anew : List (Nat × mE) := [(0, .aload_n 0, 1, [], 0), (1, .getfield 29, 3, [9, 3, 380], 0), (4, .getfield 195, 3, [5, 0, 190], 0), (7, .istore_n 1, 1, [], 0), (8, .aload_n 0, 1, [], 0), (9, .getfield 29, 3, [9, 3, 380], 0), (12, .invokevirtual 103, 3, [45, 0, 5, 594, 595, 596], 0), (15, .iload_n 1, 1, [], 0), (16, .ireturn, 1, [], 0)]
def P_X9_longest : List (Nat × mE) := [(0, .aload_n 0, 1, [], 0), (1, .getfield 40, 3, [9, 6, 383], 0), (4, .aload_n 0, 1, [], 0), (5, .getfield 19, 3, [9, 1, 378], 0), (8, .aload_n 0, 1, [], 0), (9, .getfield 29, 3, [9, 3, 380], 0), (12, .invokevirtual 213, 3, [12, 2, 0, 710, 711, 712], 0), (15, .aload_n 0, 1, [], 0), (16, .getfield 40, 3, [9, 6, 383], 0), (19, .getfield 217, 3, [0, 0, 235], 0), (22, .ireturn, 1, [], 0)]
def P_X9_begins : List (Nat × mE) := [(0, .aload_n 0, 1, [], 0), (1, .getfield 19, 3, [9, 1, 378], 0), (4, .iload_n 1, 1, [], 0), (5, .invokevirtual 121, 3, [20, 1, 1, 610, 611, 612], 0), (8, .ifCond .ne 5, 3, [13], 0), (11, .iconst (-1), 1, [], 0), (12, .ireturn, 1, [], 0), (13, .aload_n 0, 1, [], 0), (14, .getfield 40, 3, [9, 6, 383], 0), (17, .aload_n 0, 1, [], 0), (18, .getfield 19, 3, [9, 1, 378], 0), (21, .aload_n 0, 1, [], 0), (22, .getfield 29, 3, [9, 3, 380], 0), (25, .invokevirtual 213, 3, [12, 2, 0, 710, 711, 712], 0), (28, .aload_n 0, 1, [], 0), (29, .getfield 40, 3, [9, 6, 383], 0), (32, .getfield 217, 3, [0, 0, 235], 0), (35, .ifCond .ne 8, 3, [43], 0), (38, .bipush (-9), 2, [], 0), (40, .goto 14, 3, [54], 0), (43, .aload_n 0, 1, [], 0), (44, .getfield 40, 3, [9, 6, 383], 0), (47, .getfield 220, 3, [0, 1, 237], 0), (50, .iload_n 1, 1, [], 0), (51, .invokestatic 128, 3, [124, 2, 0, 614, 460], 0), (54, .ireturn, 1, [], 0)]
def P_X9_most : List (Nat × mE) := [(0, .iload_n 1, 1, [], 0), (1, .iconst 1, 1, [], 0), (2, .bipush 6, 2, [], 0), (4, .invokestatic 79, 3, [121, 3, 0, 421, 422], 0), (7, .ifCond .eq 22, 3, [29], 0), (10, .aload_n 0, 1, [], 0), (11, .getfield 47, 3, [9, 7, 384], 0), (14, .aload_n 0, 1, [], 0), (15, .getfield 19, 3, [9, 1, 378], 0), (18, .aload_n 0, 1, [], 0), (19, .getfield 29, 3, [9, 3, 380], 0), (22, .iload_n 1, 1, [], 0), (23, .invokevirtual 223, 3, [31, 3, 2, 758, 759, 760], 0), (26, .goto 4, 3, [30], 0), (29, .iconst (-1), 1, [], 0), (30, .ireturn, 1, [], 0)]
def P_X9_rings : List (Nat × mE) := [(0, .iload_n 1, 1, [], 0), (1, .iconst 1, 1, [], 0), (2, .iconst 3, 1, [], 0), (3, .invokestatic 79, 3, [121, 3, 0, 421, 422], 0), (6, .ifCond .eq 29, 3, [35], 0), (9, .iload_n 2, 1, [], 0), (10, .iconst 1, 1, [], 0), (11, .sipush 999, 3, [], 0), (14, .invokestatic 79, 3, [121, 3, 0, 421, 422], 0), (17, .ifCond .eq 18, 3, [35], 0), (20, .iload_n 3, 1, [], 0), (21, .iconst 0, 1, [], 0), (22, .aload_n 0, 1, [], 0), (23, .getfield 19, 3, [9, 1, 378], 0), (26, .getfield 112, 3, [1, 0, 133], 0), (29, .invokestatic 79, 3, [121, 3, 0, 421, 422], 0), (32, .ifCond .ne 5, 3, [37], 0), (35, .iconst (-1), 1, [], 0), (36, .ireturn, 1, [], 0), (37, .aload_n 0, 1, [], 0), (38, .getfield 54, 3, [9, 8, 385], 0), (41, .aload_n 0, 1, [], 0), (42, .getfield 19, 3, [9, 1, 378], 0), (45, .iload_n 1, 1, [], 0), (46, .iload_n 2, 1, [], 0), (47, .invokevirtual 227, 3, [53, 3, 6, 803, 804, 805], 0), (50, .iload_n 3, 1, [], 0), (51, .ifCond .ne 13, 3, [64], 0), (54, .aload_n 0, 1, [], 0), (55, .getfield 54, 3, [9, 8, 385], 0), (58, .getfield 231, 3, [6, 0, 290], 0), (61, .goto 13, 3, [74], 0), (64, .aload_n 0, 1, [], 0), (65, .getfield 54, 3, [9, 8, 385], 0), (68, .iload_n 3, 1, [], 0), (69, .iconst 1, 1, [], 0), (70, .isub, 1, [], 0), (71, .invokevirtual 234, 3, [57, 1, 6, 822, 823, 824], 0), (74, .ireturn, 1, [], 0)]
def P_X9_meeting_c0 : List (Nat × mE) := [(0, .iload_n 1, 1, [], 0), (1, .iconst 1, 1, [], 0), (2, .bipush 99, 2, [], 0), (4, .invokestatic 79, 3, [121, 3, 0, 421, 422], 0), (7, .ifCond .eq 38, 3, [45], 0), (10, .iload_n 2, 1, [], 0), (11, .iconst 1, 1, [], 0), (12, .bipush 99, 2, [], 0), (14, .invokestatic 79, 3, [121, 3, 0, 421, 422], 0), (17, .ifCond .eq 28, 3, [45], 0), (20, .iload_n 3, 1, [], 0), (21, .iconst 1, 1, [], 0), (22, .bipush 99, 2, [], 0), (24, .invokestatic 79, 3, [121, 3, 0, 421, 422], 0), (27, .ifCond .eq 18, 3, [45], 0), (30, .iload 4, 2, [], 0), (32, .iconst 1, 1, [], 0), (33, .bipush 99, 2, [], 0), (35, .invokestatic 79, 3, [121, 3, 0, 421, 422], 0), (38, .ifCond .eq 7, 3, [45], 0), (41, .iconst 1, 1, [], 0), (42, .goto 4, 3, [46], 0), (45, .iconst 0, 1, [], 0), (46, .istore 6, 2, [], 0), (48, .iload 6, 2, [], 0), (50, .ifCond .eq 13, 3, [63], 0), (53, .iload 5, 2, [], 0), (55, .iconst 0, 1, [], 0), (56, .iconst 2, 1, [], 0), (57, .invokestatic 79, 3, [121, 3, 0, 421, 422], 0), (60, .ifCond .ne 5, 3, [65], 0), (63, .iconst (-1), 1, [], 0), (64, .ireturn, 1, [], 0), (65, .aload_n 0, 1, [], 0), (66, .getfield 19, 3, [9, 1, 378], 0), (69, .getfield 118, 3, [1, 2, 141], 0), (72, .ifCond .ne 6, 3, [78], 0), (75, .bipush (-9), 2, [], 0), (77, .ireturn, 1, [], 0), (78, .aload_n 0, 1, [], 0), (79, .getfield 61, 3, [9, 9, 386], 0), (82, .aload_n 0, 1, [], 0), (83, .getfield 19, 3, [9, 1, 378], 0), (86, .iload_n 1, 1, [], 0), (87, .iload_n 2, 1, [], 0), (88, .iload_n 3, 1, [], 0), (89, .iload 4, 2, [], 0), (91, .invokevirtual 238, 3, [42, 5, 4, 830, 831, 832], 0), (94, .iload 5, 2, [], 0), (96, .lookupswitch 44 #[(0, 28), (1, 36)], 28, [], 0), (124, .aload_n 0, 1, [], 0), (125, .getfield 61, 3, [9, 9, 386], 0), (128, .getfield 242, 3, [4, 0, 313], 0), (131, .ireturn, 1, [], 0), (132, .aload_n 0, 1, [], 0), (133, .getfield 61, 3, [9, 9, 386], 0), (136, .getfield 245, 3, [4, 1, 315], 0), (139, .ireturn, 1, [], 0), (140, .aload_n 0, 1, [], 0), (141, .getfield 61, 3, [9, 9, 386], 0)]
def P_X9_meeting_c1 : List (Nat × mE) := [(144, .getfield 248, 3, [4, 2, 317], 0), (147, .ireturn, 1, [], 0)]
def P_X9_meeting : List (Nat × mE) := P_X9_meeting_c0 ++ (P_X9_meeting_c1)
def P_X9_songs : List (Nat × mE) := [(0, .iload_n 1, 1, [], 0), (1, .iconst 1, 1, [], 0), (2, .bipush 99, 2, [], 0), (4, .invokestatic 79, 3, [121, 3, 0, 421, 422], 0), (7, .ifCond .eq 36, 3, [43], 0), (10, .iload_n 2, 1, [], 0), (11, .iconst 0, 1, [], 0), (12, .sipush 999, 3, [], 0), (15, .invokestatic 79, 3, [121, 3, 0, 421, 422], 0), (18, .ifCond .eq 25, 3, [43], 0), (21, .iload_n 3, 1, [], 0), (22, .iconst 1, 1, [], 0), (23, .bipush 99, 2, [], 0), (25, .invokestatic 79, 3, [121, 3, 0, 421, 422], 0), (28, .ifCond .eq 15, 3, [43], 0), (31, .iload 4, 2, [], 0), (33, .iconst 0, 1, [], 0), (34, .sipush 999, 3, [], 0), (37, .invokestatic 79, 3, [121, 3, 0, 421, 422], 0), (40, .ifCond .ne 5, 3, [45], 0), (43, .iconst (-1), 1, [], 0), (44, .ireturn, 1, [], 0), (45, .iload_n 2, 1, [], 0), (46, .iload 4, 2, [], 0), (48, .invokestatic 251, 3, [3, 2, 0, 863, 672], 0), (51, .istore 5, 2, [], 0), (53, .iload 5, 2, [], 0), (55, .iload_n 2, 1, [], 0), (56, .iload 5, 2, [], 0), (58, .isub, 1, [], 0), (59, .iload_n 1, 1, [], 0), (60, .invokestatic 257, 3, [2, 2, 0, 864, 865], 0), (63, .iadd, 1, [], 0), (64, .istore 6, 2, [], 0), (66, .iconst 0, 1, [], 0), (67, .istore 7, 2, [], 0), (69, .iload 7, 2, [], 0), (71, .iload_n 3, 1, [], 0), (72, .if_icmp .ge 30, 3, [102], 0), (75, .iload 6, 2, [], 0), (77, .iload 4, 2, [], 0), (79, .isub, 1, [], 0), (80, .iload_n 3, 1, [], 0), (81, .invokestatic 260, 3, [129, 2, 0, 867, 852], 0), (84, .ifCond .ne 6, 3, [90], 0), (87, .iload 6, 2, [], 0), (89, .ireturn, 1, [], 0), (90, .iload 6, 2, [], 0), (92, .iload_n 1, 1, [], 0), (93, .iadd, 1, [], 0), (94, .istore 6, 2, [], 0), (96, .iinc 7 1, 3, [], 0), (99, .goto (-30), 3, [69], 0), (102, .bipush (-9), 2, [], 0), (104, .ireturn, 1, [], 0)]
def P_X9_hole : List (Nat × mE) := [(0, .iload_n 1, 1, [], 0), (1, .iconst 0, 1, [], 0), (2, .bipush 99, 2, [], 0), (4, .invokestatic 79, 3, [121, 3, 0, 421, 422], 0), (7, .ifCond .eq 24, 3, [31], 0), (10, .iload_n 2, 1, [], 0), (11, .iconst 1, 1, [], 0), (12, .bipush 99, 2, [], 0), (14, .invokestatic 79, 3, [121, 3, 0, 421, 422], 0), (17, .ifCond .eq 14, 3, [31], 0), (20, .iload_n 3, 1, [], 0), (21, .iload_n 1, 1, [], 0), (22, .sipush 200, 3, [], 0), (25, .invokestatic 79, 3, [121, 3, 0, 421, 422], 0), (28, .ifCond .ne 5, 3, [33], 0), (31, .iconst (-1), 1, [], 0), (32, .ireturn, 1, [], 0), (33, .aload_n 0, 1, [], 0), (34, .getfield 68, 3, [9, 10, 387], 0), (37, .iload_n 1, 1, [], 0), (38, .iload_n 2, 1, [], 0), (39, .iload_n 3, 1, [], 0), (40, .invokevirtual 263, 3, [39, 3, 3, 872, 873, 874], 0), (43, .ifCond .eq 13, 3, [56], 0), (46, .aload_n 0, 1, [], 0), (47, .getfield 68, 3, [9, 10, 387], 0), (50, .getfield 266, 3, [3, 0, 344], 0), (53, .goto 5, 3, [58], 0), (56, .bipush (-3), 2, [], 0), (58, .ireturn, 1, [], 0)]
def P_X9_night : List (Nat × mE) := [(0, .iload_n 1, 1, [], 0), (1, .iconst 1, 1, [], 0), (2, .bipush 99, 2, [], 0), (4, .invokestatic 79, 3, [121, 3, 0, 421, 422], 0), (7, .ifCond .eq 25, 3, [32], 0), (10, .aload_n 0, 1, [], 0), (11, .getfield 68, 3, [9, 10, 387], 0), (14, .invokevirtual 269, 3, [40, 0, 3, 881, 882, 883], 0), (17, .iload_n 1, 1, [], 0), (18, .if_icmp .gt 7, 3, [25], 0), (21, .iconst 1, 1, [], 0), (22, .goto 4, 3, [26], 0), (25, .iconst 0, 1, [], 0), (26, .invokestatic 157, 3, [123, 1, 0, 626, 576], 0), (29, .goto 4, 3, [33], 0), (32, .iconst (-1), 1, [], 0), (33, .ireturn, 1, [], 0)]
def P_X9_least : List (Nat × mE) := [(0, .aload_n 0, 1, [], 0), (1, .getfield 68, 3, [9, 10, 387], 0), (4, .invokevirtual 269, 3, [40, 0, 3, 881, 882, 883], 0), (7, .istore_n 1, 1, [], 0), (8, .iload_n 1, 1, [], 0), (9, .bipush 99, 2, [], 0), (11, .if_icmp .gt 7, 3, [18], 0), (14, .iload_n 1, 1, [], 0), (15, .goto 5, 3, [20], 0), (18, .bipush (-9), 2, [], 0), (20, .ireturn, 1, [], 0)]
def P_X9_dry : List (Nat × mE) := [(0, .aload_n 0, 1, [], 0), (1, .getfield 68, 3, [9, 10, 387], 0), (4, .getfield 266, 3, [3, 0, 344], 0), (7, .istore_n 1, 1, [], 0), (8, .aload_n 0, 1, [], 0), (9, .getfield 68, 3, [9, 10, 387], 0), (12, .iconst 0, 1, [], 0), (13, .putfield 266, 3, [3, 0, 344], 0), (16, .iload_n 1, 1, [], 0), (17, .ireturn, 1, [], 0)]
def P_X9_tell : List (Nat × mE) := [(0, .iload_n 1, 1, [], 0), (1, .iconst 0, 1, [], 0), (2, .bipush 99, 2, [], 0), (4, .invokestatic 79, 3, [121, 3, 0, 421, 422], 0), (7, .ifCond .eq 25, 3, [32], 0), (10, .aload_n 0, 1, [], 0), (11, .getfield 19, 3, [9, 1, 378], 0), (14, .iload_n 2, 1, [], 0), (15, .invokevirtual 121, 3, [20, 1, 1, 610, 611, 612], 0), (18, .ifCond .eq 14, 3, [32], 0), (21, .aload_n 0, 1, [], 0), (22, .getfield 19, 3, [9, 1, 378], 0), (25, .iload_n 3, 1, [], 0), (26, .invokevirtual 141, 3, [21, 1, 1, 619, 620, 621], 0), (29, .ifCond .ne 5, 3, [34], 0), (32, .iconst (-1), 1, [], 0), (33, .ireturn, 1, [], 0), (34, .aload_n 0, 1, [], 0), (35, .getfield 75, 3, [9, 11, 388], 0), (38, .iload_n 1, 1, [], 0), (39, .iload_n 2, 1, [], 0), (40, .iload_n 3, 1, [], 0), (41, .invokevirtual 272, 3, [80, 3, 8, 905, 906, 907], 0), (44, .ifCond .eq 13, 3, [57], 0), (47, .aload_n 0, 1, [], 0), (48, .getfield 75, 3, [9, 11, 388], 0), (51, .getfield 273, 3, [8, 0, 364], 0), (54, .goto 5, 3, [59], 0), (57, .bipush (-3), 2, [], 0), (59, .ireturn, 1, [], 0)]
def P_X9_cheats : List (Nat × mE) := [(0, .iload_n 1, 1, [], 0), (1, .lookupswitch 43 #[(0, 27), (1, 35)], 27, [], 0), (28, .aload_n 0, 1, [], 0), (29, .getfield 75, 3, [9, 11, 388], 0), (32, .invokevirtual 274, 3, [82, 0, 8, 914, 915, 916], 0), (35, .ireturn, 1, [], 0), (36, .aload_n 0, 1, [], 0), (37, .getfield 75, 3, [9, 11, 388], 0), (40, .invokevirtual 277, 3, [83, 0, 8, 923, 924, 925], 0), (43, .ireturn, 1, [], 0), (44, .iconst (-1), 1, [], 0), (45, .ireturn, 1, [], 0)]
def P_X9_mark : List (Nat × mE) := [(0, .aload_n 0, 1, [], 0), (1, .getfield 19, 3, [9, 1, 378], 0), (4, .iload_n 2, 1, [], 0), (5, .invokevirtual 121, 3, [20, 1, 1, 610, 611, 612], 0), (8, .ifCond .ne 7, 3, [15], 0), (11, .ldc_w 280, 3, [942], (-1000000)), (14, .ireturn, 1, [], 0), (15, .iload_n 1, 1, [], 0), (16, .tableswitch 76 0 5 #[40, 46, 52, 58, 64, 70], 40, [], 0), (56, .aload_n 0, 1, [], 0), (57, .iload_n 2, 1, [], 0), (58, .invokevirtual 281, 3, [115, 1, 9, 943, 945, 35], 0), (61, .ireturn, 1, [], 0), (62, .aload_n 0, 1, [], 0), (63, .iload_n 2, 1, [], 0), (64, .invokevirtual 284, 3, [116, 1, 9, 947, 949, 36], 0), (67, .ireturn, 1, [], 0), (68, .aload_n 0, 1, [], 0), (69, .iload_n 2, 1, [], 0), (70, .invokevirtual 287, 3, [117, 1, 9, 953, 955, 37], 0), (73, .ireturn, 1, [], 0), (74, .aload_n 0, 1, [], 0), (75, .iload_n 2, 1, [], 0), (76, .invokevirtual 290, 3, [118, 1, 9, 958, 960, 38], 0), (79, .ireturn, 1, [], 0), (80, .aload_n 0, 1, [], 0), (81, .iload_n 2, 1, [], 0), (82, .invokevirtual 293, 3, [119, 1, 9, 963, 965, 39], 0), (85, .ireturn, 1, [], 0), (86, .aload_n 0, 1, [], 0), (87, .iload_n 2, 1, [], 0), (88, .invokevirtual 296, 3, [120, 1, 9, 968, 970, 40], 0), (91, .ireturn, 1, [], 0), (92, .ldc_w 280, 3, [942], (-1000000)), (95, .ireturn, 1, [], 0)]
def P_X9_keep : List (Nat × mE) := [(0, .aload_n 0, 1, [], 0), (1, .iload_n 1, 1, [], 0), (2, .invokevirtual 299, 3, [114, 1, 9, 977, 979, 41], 0), (5, .astore_n 2, 1, [], 0), (6, .aload_n 2, 1, [], 0), (7, .ifnonnull 5, 3, [12], 0), (10, .iconst (-1), 1, [], 0), (11, .ireturn, 1, [], 0), (12, .aload_n 2, 1, [], 0), (13, .aload_n 0, 1, [], 0), (14, .getfield 29, 3, [9, 3, 380], 0), (17, .invokevirtual 303, 3, [46, 1, 5, 981, 982, 983], 0), (20, .aload_n 0, 1, [], 0), (21, .dup, 1, [], 0), (22, .getfield 109, 3, [9, 5, 382], 0), (25, .iconst 1, 1, [], 0), (26, .iload_n 1, 1, [], 0), (27, .ishl, 1, [], 0), (28, .ior, 1, [], 0), (29, .putfield 109, 3, [9, 5, 382], 0), (32, .aload_n 0, 1, [], 0), (33, .getfield 29, 3, [9, 3, 380], 0), (36, .getfield 195, 3, [5, 0, 190], 0), (39, .ireturn, 1, [], 0)]
def P_X9_back : List (Nat × mE) := [(0, .aload_n 0, 1, [], 0), (1, .iload_n 1, 1, [], 0), (2, .invokevirtual 299, 3, [114, 1, 9, 977, 979, 41], 0), (5, .astore_n 2, 1, [], 0), (6, .aload_n 2, 1, [], 0), (7, .ifnonnull 5, 3, [12], 0), (10, .iconst (-1), 1, [], 0), (11, .ireturn, 1, [], 0), (12, .aload_n 0, 1, [], 0), (13, .getfield 109, 3, [9, 5, 382], 0), (16, .iload_n 1, 1, [], 0), (17, .invokestatic 153, 3, [122, 2, 0, 623, 624], 0), (20, .ifCond .ne 6, 3, [26], 0), (23, .bipush (-2), 2, [], 0), (25, .ireturn, 1, [], 0), (26, .aload_n 0, 1, [], 0), (27, .getfield 29, 3, [9, 3, 380], 0), (30, .aload_n 2, 1, [], 0), (31, .invokevirtual 303, 3, [46, 1, 5, 981, 982, 983], 0), (34, .aload_n 0, 1, [], 0), (35, .getfield 29, 3, [9, 3, 380], 0), (38, .getfield 195, 3, [5, 0, 190], 0), (41, .ireturn, 1, [], 0)]
def P_X9_count : List (Nat × mE) := [(0, .iload_n 1, 1, [], 0), (1, .tableswitch 87 0 5 #[39, 47, 55, 63, 71, 79], 39, [], 0), (40, .aload_n 0, 1, [], 0), (41, .getfield 19, 3, [9, 1, 378], 0), (44, .getfield 112, 3, [1, 0, 133], 0), (47, .ireturn, 1, [], 0), (48, .aload_n 0, 1, [], 0), (49, .getfield 19, 3, [9, 1, 378], 0), (52, .getfield 115, 3, [1, 1, 138], 0), (55, .ireturn, 1, [], 0), (56, .aload_n 0, 1, [], 0), (57, .getfield 19, 3, [9, 1, 378], 0), (60, .getfield 118, 3, [1, 2, 141], 0), (63, .ireturn, 1, [], 0), (64, .aload_n 0, 1, [], 0), (65, .getfield 68, 3, [9, 10, 387], 0), (68, .getfield 266, 3, [3, 0, 344], 0), (71, .ireturn, 1, [], 0), (72, .aload_n 0, 1, [], 0), (73, .getfield 75, 3, [9, 11, 388], 0), (76, .getfield 273, 3, [8, 0, 364], 0), (79, .ireturn, 1, [], 0), (80, .aload_n 0, 1, [], 0), (81, .getfield 10, 3, [9, 0, 377], 0), (84, .getfield 91, 3, [7, 0, 104], 0), (87, .ireturn, 1, [], 0), (88, .iconst (-1), 1, [], 0), (89, .ireturn, 1, [], 0)]
def P_X9_trace : List (Nat × mE) := [(0, .aload_n 0, 1, [], 0), (1, .getfield 307, 3, [9, 12, 389], 0), (4, .lreturn, 1, [], 0)]
def P_X9_imageAt : List (Nat × mE) := [(0, .iload_n 1, 1, [], 0), (1, .ifCond .lt 21, 3, [22], 0), (4, .iload_n 1, 1, [], 0), (5, .aload_n 0, 1, [], 0), (6, .getfield 33, 3, [9, 4, 381], 0), (9, .arraylength, 1, [], 0), (10, .if_icmp .ge 12, 3, [22], 0), (13, .aload_n 0, 1, [], 0), (14, .getfield 33, 3, [9, 4, 381], 0), (17, .iload_n 1, 1, [], 0), (18, .aaload, 1, [], 0), (19, .goto 4, 3, [23], 0), (22, .aconst_null, 1, [], 0), (23, .areturn, 1, [], 0)]
def P_X9_markAsPerson : List (Nat × mE) := [(0, .aload_n 0, 1, [], 0), (1, .dup, 1, [], 0), (2, .getfield 307, 3, [9, 12, 389], 0), (5, .lconst 1, 1, [], 0), (6, .ladd, 1, [], 0), (7, .putfield 307, 3, [9, 12, 389], 0), (10, .aload_n 0, 1, [], 0), (11, .getfield 19, 3, [9, 1, 378], 0), (14, .getfield 124, 3, [1, 3, 145], 0), (17, .iload_n 1, 1, [], 0), (18, .invokestatic 128, 3, [124, 2, 0, 614, 460], 0), (21, .ireturn, 1, [], 0)]
def P_X9_markAsDigger : List (Nat × mE) := [(0, .aload_n 0, 1, [], 0), (1, .dup, 1, [], 0), (2, .getfield 307, 3, [9, 12, 389], 0), (5, .ldc2_w 311, 3, [951], 10), (8, .ladd, 1, [], 0), (9, .putfield 307, 3, [9, 12, 389], 0), (12, .aload_n 0, 1, [], 0), (13, .iload_n 1, 1, [], 0), (14, .invokevirtual 281, 3, [115, 1, 9, 943, 945, 35], 0), (17, .aload_n 0, 1, [], 0), (18, .getfield 29, 3, [9, 3, 380], 0), (21, .getfield 138, 3, [5, 7, 204], 0), (24, .iload_n 1, 1, [], 0), (25, .invokestatic 128, 3, [124, 2, 0, 614, 460], 0), (28, .invokestatic 313, 3, [0, 1, 0, 952, 730], 0), (31, .iadd, 1, [], 0), (32, .ireturn, 1, [], 0)]
def P_X9_markAsSinger : List (Nat × mE) := [(0, .aload_n 0, 1, [], 0), (1, .dup, 1, [], 0), (2, .getfield 307, 3, [9, 12, 389], 0), (5, .ldc2_w 318, 3, [957], 100), (8, .ladd, 1, [], 0), (9, .putfield 307, 3, [9, 12, 389], 0), (12, .aload_n 0, 1, [], 0), (13, .iload_n 1, 1, [], 0), (14, .invokevirtual 281, 3, [115, 1, 9, 943, 945, 35], 0), (17, .aload_n 0, 1, [], 0), (18, .getfield 29, 3, [9, 3, 380], 0), (21, .getfield 195, 3, [5, 0, 190], 0), (24, .iadd, 1, [], 0), (25, .ireturn, 1, [], 0)]
def P_X9_markAsLeft : List (Nat × mE) := [(0, .aload_n 0, 1, [], 0), (1, .dup, 1, [], 0), (2, .getfield 307, 3, [9, 12, 389], 0), (5, .ldc2_w 320, 3, [962], 1000), (8, .ladd, 1, [], 0), (9, .putfield 307, 3, [9, 12, 389], 0), (12, .aload_n 0, 1, [], 0), (13, .iload_n 1, 1, [], 0), (14, .invokevirtual 284, 3, [116, 1, 9, 947, 949, 36], 0), (17, .iconst 2, 1, [], 0), (18, .imul, 1, [], 0), (19, .ireturn, 1, [], 0)]
def P_X9_markAsProphet : List (Nat × mE) := [(0, .aload_n 0, 1, [], 0), (1, .dup, 1, [], 0), (2, .getfield 307, 3, [9, 12, 389], 0), (5, .ldc2_w 322, 3, [967], 10000), (8, .ladd, 1, [], 0), (9, .putfield 307, 3, [9, 12, 389], 0), (12, .aload_n 0, 1, [], 0), (13, .iload_n 1, 1, [], 0), (14, .invokevirtual 287, 3, [117, 1, 9, 953, 955, 37], 0), (17, .aload_n 0, 1, [], 0), (18, .getfield 29, 3, [9, 3, 380], 0), (21, .getfield 150, 3, [5, 6, 202], 0), (24, .invokestatic 313, 3, [0, 1, 0, 952, 730], 0), (27, .isub, 1, [], 0), (28, .ireturn, 1, [], 0)]
def P_X9_markAsSlow : List (Nat × mE) := [(0, .aload_n 0, 1, [], 0), (1, .dup, 1, [], 0), (2, .getfield 307, 3, [9, 12, 389], 0), (5, .ldc2_w 324, 3, [972], 100000), (8, .ladd, 1, [], 0), (9, .putfield 307, 3, [9, 12, 389], 0), (12, .aload_n 0, 1, [], 0), (13, .iload_n 1, 1, [], 0), (14, .invokevirtual 281, 3, [115, 1, 9, 943, 945, 35], 0), (17, .aload_n 0, 1, [], 0), (18, .getfield 19, 3, [9, 1, 378], 0), (21, .getfield 132, 3, [1, 4, 148], 0), (24, .iload_n 1, 1, [], 0), (25, .invokestatic 128, 3, [124, 2, 0, 614, 460], 0), (28, .isub, 1, [], 0), (29, .ireturn, 1, [], 0)]
def P_X9_within : List (Nat × mE) := [(0, .iload_n 0, 1, [], 0), (1, .iload_n 1, 1, [], 0), (2, .if_icmp .lt 12, 3, [14], 0), (5, .iload_n 0, 1, [], 0), (6, .iload_n 2, 1, [], 0), (7, .if_icmp .gt 7, 3, [14], 0), (10, .iconst 1, 1, [], 0), (11, .goto 4, 3, [15], 0), (14, .iconst 0, 1, [], 0), (15, .ireturn, 1, [], 0)]
def P_X9_hasBit : List (Nat × mE) := [(0, .iload_n 1, 1, [], 0), (1, .ifCond .lt 21, 3, [22], 0), (4, .iload_n 1, 1, [], 0), (5, .bipush 32, 2, [], 0), (7, .if_icmp .ge 15, 3, [22], 0), (10, .iload_n 0, 1, [], 0), (11, .iload_n 1, 1, [], 0), (12, .iushr, 1, [], 0), (13, .iconst 1, 1, [], 0), (14, .iand, 1, [], 0), (15, .ifCond .eq 7, 3, [22], 0), (18, .iconst 1, 1, [], 0), (19, .goto 4, 3, [23], 0), (22, .iconst 0, 1, [], 0), (23, .ireturn, 1, [], 0)]
def P_X9_asNumber : List (Nat × mE) := [(0, .iload_n 0, 1, [], 0), (1, .ifCond .eq 7, 3, [8], 0), (4, .iconst 1, 1, [], 0), (5, .goto 4, 3, [9], 0), (8, .iconst 0, 1, [], 0), (9, .ireturn, 1, [], 0)]
def P_X9_cell : List (Nat × mE) := [(0, .iload_n 1, 1, [], 0), (1, .ifCond .lt 15, 3, [16], 0), (4, .iload_n 1, 1, [], 0), (5, .aload_n 0, 1, [], 0), (6, .arraylength, 1, [], 0), (7, .if_icmp .ge 9, 3, [16], 0), (10, .aload_n 0, 1, [], 0), (11, .iload_n 1, 1, [], 0), (12, .iaload, 1, [], 0), (13, .goto 4, 3, [17], 0), (16, .iconst 0, 1, [], 0), (17, .ireturn, 1, [], 0)]
def P_X9_put : List (Nat × mE) := [(0, .iload_n 1, 1, [], 0), (1, .ifCond .lt 13, 3, [14], 0), (4, .iload_n 1, 1, [], 0), (5, .aload_n 0, 1, [], 0), (6, .arraylength, 1, [], 0), (7, .if_icmp .ge 7, 3, [14], 0), (10, .aload_n 0, 1, [], 0), (11, .iload_n 1, 1, [], 0), (12, .iload_n 2, 1, [], 0), (13, .iastore, 1, [], 0), (14, .return_, 1, [], 0)]
def P_X9_fill : List (Nat × mE) := [(0, .iconst 0, 1, [], 0), (1, .istore_n 2, 1, [], 0), (2, .iload_n 2, 1, [], 0), (3, .aload_n 0, 1, [], 0), (4, .arraylength, 1, [], 0), (5, .if_icmp .ge 13, 3, [18], 0), (8, .aload_n 0, 1, [], 0), (9, .iload_n 2, 1, [], 0), (10, .iload_n 1, 1, [], 0), (11, .iastore, 1, [], 0), (12, .iinc 2 1, 3, [], 0), (15, .goto (-13), 3, [2], 0), (18, .return_, 1, [], 0)]
def P_X9_copy : List (Nat × mE) := [(0, .iconst 0, 1, [], 0), (1, .istore_n 2, 1, [], 0), (2, .iload_n 2, 1, [], 0), (3, .aload_n 0, 1, [], 0), (4, .arraylength, 1, [], 0), (5, .if_icmp .ge 21, 3, [26], 0), (8, .iload_n 2, 1, [], 0), (9, .aload_n 1, 1, [], 0), (10, .arraylength, 1, [], 0), (11, .if_icmp .ge 15, 3, [26], 0), (14, .aload_n 1, 1, [], 0), (15, .iload_n 2, 1, [], 0), (16, .aload_n 0, 1, [], 0), (17, .iload_n 2, 1, [], 0), (18, .iaload, 1, [], 0), (19, .iastore, 1, [], 0), (20, .iinc 2 1, 3, [], 0), (23, .goto (-21), 3, [2], 0), (26, .return_, 1, [], 0)]
def P_X9_quotient : List (Nat × mE) := [(0, .iload_n 1, 1, [], 0), (1, .iconst 1, 1, [], 0), (2, .if_icmp .ge 7, 3, [9], 0), (5, .iconst 0, 1, [], 0), (6, .goto 6, 3, [12], 0), (9, .iload_n 0, 1, [], 0), (10, .iload_n 1, 1, [], 0), (11, .idiv, 1, [], 0), (12, .ireturn, 1, [], 0)]
def P_X9_remainder : List (Nat × mE) := [(0, .iload_n 1, 1, [], 0), (1, .iconst 1, 1, [], 0), (2, .if_icmp .ge 7, 3, [9], 0), (5, .iconst 0, 1, [], 0), (6, .goto 6, 3, [12], 0), (9, .iload_n 0, 1, [], 0), (10, .iload_n 1, 1, [], 0), (11, .irem, 1, [], 0), (12, .ireturn, 1, [], 0)]
def P_X10_in : List (Nat × mE) := [(0, .iload_n 0, 1, [], 0), (1, .iload_n 1, 1, [], 0), (2, .if_icmp .lt 12, 3, [14], 0), (5, .iload_n 0, 1, [], 0), (6, .iload_n 2, 1, [], 0), (7, .if_icmp .gt 7, 3, [14], 0), (10, .iconst 1, 1, [], 0), (11, .goto 4, 3, [15], 0), (14, .iconst 0, 1, [], 0), (15, .ireturn, 1, [], 0)]
def P_X10_type : List (Nat × mE) := [(0, .iload_n 3, 1, [], 0), (1, .iconst 1, 1, [], 0), (2, .bipush 8, 2, [], 0), (4, .invokestatic 108, 3, [130, 3, 0, 1138, 1139], 0), (7, .ifCond .ne 5, 3, [12], 0), (10, .iconst (-1), 1, [], 0), (11, .ireturn, 1, [], 0), (12, .aload_n 0, 1, [], 0), (13, .getfield 112, 3, [10, 2, 1008], 0), (16, .iload_n 3, 1, [], 0), (17, .iadd, 1, [], 0), (18, .sipush 300, 3, [], 0), (21, .if_icmp .le 6, 3, [27], 0), (24, .bipush (-3), 2, [], 0), (26, .ireturn, 1, [], 0), (27, .iload_n 3, 1, [], 0), (28, .iconst 1, 1, [], 0), (29, .isub, 1, [], 0), (30, .istore 4, 2, [], 0), (32, .iload 4, 2, [], 0), (34, .ifCond .lt 41, 3, [75], 0), (37, .aload_n 0, 1, [], 0), (38, .getfield 7, 3, [10, 1, 1007], 0), (41, .aload_n 0, 1, [], 0), (42, .getfield 112, 3, [10, 2, 1008], 0), (45, .lload_n 1, 1, [], 0), (46, .bipush 8, 2, [], 0), (48, .iload 4, 2, [], 0), (50, .imul, 1, [], 0), (51, .lshr, 1, [], 0), (52, .ldc2_w 116, 3, [1141], 255), (55, .land, 1, [], 0), (56, .l2i, 1, [], 0), (57, .i2b, 1, [], 0), (58, .bastore, 1, [], 0), (59, .aload_n 0, 1, [], 0), (60, .dup, 1, [], 0), (61, .getfield 112, 3, [10, 2, 1008], 0), (64, .iconst 1, 1, [], 0), (65, .iadd, 1, [], 0), (66, .putfield 112, 3, [10, 2, 1008], 0), (69, .iinc 4 (-1), 3, [], 0), (72, .goto (-40), 3, [32], 0), (75, .aload_n 0, 1, [], 0), (76, .getfield 112, 3, [10, 2, 1008], 0), (79, .ireturn, 1, [], 0)]
def P_X10_clear : List (Nat × mE) := [(0, .aload_n 0, 1, [], 0), (1, .getfield 112, 3, [10, 2, 1008], 0), (4, .istore_n 1, 1, [], 0), (5, .aload_n 0, 1, [], 0), (6, .iconst 0, 1, [], 0), (7, .putfield 112, 3, [10, 2, 1008], 0), (10, .iload_n 1, 1, [], 0), (11, .ireturn, 1, [], 0)]
def P_X10_here : List (Nat × mE) := [(0, .aload_n 0, 1, [], 0), (1, .getfield 118, 3, [10, 13, 1019], 0), (4, .aload_n 0, 1, [], 0), (5, .getfield 112, 3, [10, 2, 1008], 0), (8, .if_icmp .ge 19, 3, [27], 0), (11, .aload_n 0, 1, [], 0), (12, .getfield 7, 3, [10, 1, 1007], 0), (15, .aload_n 0, 1, [], 0), (16, .getfield 118, 3, [10, 13, 1019], 0), (19, .baload, 1, [], 0), (20, .sipush 255, 3, [], 0), (23, .iand, 1, [], 0), (24, .goto 4, 3, [28], 0), (27, .iconst (-1), 1, [], 0), (28, .ireturn, 1, [], 0)]
def P_X10_meaning : List (Nat × mE) := [(0, .iload_n 0, 1, [], 0), (1, .lookupswitch 61 #[(240023, 59), (493294, 55), (9748424, 57), (10413149, 53), (62321634, 51)], 51, [], 0), (52, .iconst 0, 1, [], 0), (53, .ireturn, 1, [], 0), (54, .iconst 1, 1, [], 0), (55, .ireturn, 1, [], 0), (56, .iconst 2, 1, [], 0), (57, .ireturn, 1, [], 0), (58, .iconst 3, 1, [], 0), (59, .ireturn, 1, [], 0), (60, .iconst 4, 1, [], 0), (61, .ireturn, 1, [], 0), (62, .bipush 8, 2, [], 0), (64, .ireturn, 1, [], 0)]
def P_X10_next_c0 : List (Nat × mE) := [(0, .aload_n 0, 1, [], 0), (1, .invokevirtual 121, 3, [133, 0, 10, 1154, 1156, 43], 0), (4, .bipush 32, 2, [], 0), (6, .if_icmp .ne 16, 3, [22], 0), (9, .aload_n 0, 1, [], 0), (10, .dup, 1, [], 0), (11, .getfield 118, 3, [10, 13, 1019], 0), (14, .iconst 1, 1, [], 0), (15, .iadd, 1, [], 0), (16, .putfield 118, 3, [10, 13, 1019], 0), (19, .goto (-19), 3, [0], 0), (22, .aload_n 0, 1, [], 0), (23, .aload_n 0, 1, [], 0), (24, .getfield 118, 3, [10, 13, 1019], 0), (27, .putfield 125, 3, [10, 14, 1020], 0), (30, .aload_n 0, 1, [], 0), (31, .iconst 0, 1, [], 0), (32, .putfield 128, 3, [10, 16, 1022], 0), (35, .aload_n 0, 1, [], 0), (36, .invokevirtual 121, 3, [133, 0, 10, 1154, 1156, 43], 0), (39, .istore_n 1, 1, [], 0), (40, .iload_n 1, 1, [], 0), (41, .ifCond .ge 11, 3, [52], 0), (44, .aload_n 0, 1, [], 0), (45, .iconst 5, 1, [], 0), (46, .putfield 131, 3, [10, 15, 1021], 0), (49, .goto 245, 3, [294], 0), (52, .iload_n 1, 1, [], 0), (53, .bipush 97, 2, [], 0), (55, .bipush 122, 2, [], 0), (57, .invokestatic 108, 3, [130, 3, 0, 1138, 1139], 0), (60, .ifCond .eq 92, 3, [152], 0), (63, .iconst 0, 1, [], 0), (64, .istore_n 2, 1, [], 0), (65, .aload_n 0, 1, [], 0), (66, .invokevirtual 121, 3, [133, 0, 10, 1154, 1156, 43], 0), (69, .bipush 97, 2, [], 0), (71, .bipush 122, 2, [], 0), (73, .invokestatic 108, 3, [130, 3, 0, 1138, 1139], 0), (76, .ifCond .eq 47, 3, [123], 0), (79, .aload_n 0, 1, [], 0), (80, .getfield 118, 3, [10, 13, 1019], 0), (83, .aload_n 0, 1, [], 0), (84, .getfield 125, 3, [10, 14, 1020], 0), (87, .isub, 1, [], 0), (88, .bipush 6, 2, [], 0), (90, .if_icmp .ge 18, 3, [108], 0), (93, .bipush 27, 2, [], 0), (95, .iload_n 2, 1, [], 0), (96, .imul, 1, [], 0), (97, .aload_n 0, 1, [], 0), (98, .invokevirtual 121, 3, [133, 0, 10, 1154, 1156, 43], 0), (101, .iadd, 1, [], 0), (102, .bipush 96, 2, [], 0), (104, .isub, 1, [], 0), (105, .goto 4, 3, [109], 0), (108, .iconst 0, 1, [], 0), (109, .istore_n 2, 1, [], 0), (110, .aload_n 0, 1, [], 0), (111, .dup, 1, [], 0)]
def P_X10_next_c1 : List (Nat × mE) := [(112, .getfield 118, 3, [10, 13, 1019], 0), (115, .iconst 1, 1, [], 0), (116, .iadd, 1, [], 0), (117, .putfield 118, 3, [10, 13, 1019], 0), (120, .goto (-55), 3, [65], 0), (123, .aload_n 0, 1, [], 0), (124, .aload_n 0, 1, [], 0), (125, .getfield 118, 3, [10, 13, 1019], 0), (128, .aload_n 0, 1, [], 0), (129, .getfield 125, 3, [10, 14, 1020], 0), (132, .isub, 1, [], 0), (133, .bipush 6, 2, [], 0), (135, .if_icmp .le 7, 3, [142], 0), (138, .iconst 0, 1, [], 0), (139, .goto 4, 3, [143], 0), (142, .iload_n 2, 1, [], 0), (143, .invokestatic 134, 3, [134, 1, 0, 1158, 1159], 0), (146, .putfield 131, 3, [10, 15, 1021], 0), (149, .goto 145, 3, [294], 0), (152, .iload_n 1, 1, [], 0), (153, .bipush 48, 2, [], 0), (155, .bipush 57, 2, [], 0), (157, .invokestatic 108, 3, [130, 3, 0, 1138, 1139], 0), (160, .ifCond .eq 107, 3, [267], 0), (163, .aload_n 0, 1, [], 0), (164, .invokevirtual 121, 3, [133, 0, 10, 1154, 1156, 43], 0), (167, .bipush 48, 2, [], 0), (169, .bipush 57, 2, [], 0), (171, .invokestatic 108, 3, [130, 3, 0, 1138, 1139], 0), (174, .ifCond .eq 51, 3, [225], 0), (177, .aload_n 0, 1, [], 0), (178, .aload_n 0, 1, [], 0), (179, .getfield 128, 3, [10, 16, 1022], 0), (182, .bipush 99, 2, [], 0), (184, .if_icmp .le 10, 3, [194], 0), (187, .aload_n 0, 1, [], 0), (188, .getfield 128, 3, [10, 16, 1022], 0), (191, .goto 18, 3, [209], 0), (194, .bipush 10, 2, [], 0), (196, .aload_n 0, 1, [], 0), (197, .getfield 128, 3, [10, 16, 1022], 0), (200, .imul, 1, [], 0), (201, .aload_n 0, 1, [], 0), (202, .invokevirtual 121, 3, [133, 0, 10, 1154, 1156, 43], 0), (205, .iadd, 1, [], 0), (206, .bipush 48, 2, [], 0), (208, .isub, 1, [], 0), (209, .putfield 128, 3, [10, 16, 1022], 0), (212, .aload_n 0, 1, [], 0), (213, .dup, 1, [], 0), (214, .getfield 118, 3, [10, 13, 1019], 0), (217, .iconst 1, 1, [], 0), (218, .iadd, 1, [], 0), (219, .putfield 118, 3, [10, 13, 1019], 0), (222, .goto (-59), 3, [163], 0), (225, .aload_n 0, 1, [], 0), (226, .aload_n 0, 1, [], 0), (227, .getfield 128, 3, [10, 16, 1022], 0), (230, .bipush 99, 2, [], 0), (232, .if_icmp .gt 22, 3, [254], 0)]
def P_X10_next_c2 : List (Nat × mE) := [(235, .iload_n 1, 1, [], 0), (236, .bipush 48, 2, [], 0), (238, .if_icmp .ne 21, 3, [259], 0), (241, .aload_n 0, 1, [], 0), (242, .getfield 118, 3, [10, 13, 1019], 0), (245, .aload_n 0, 1, [], 0), (246, .getfield 125, 3, [10, 14, 1020], 0), (249, .isub, 1, [], 0), (250, .iconst 1, 1, [], 0), (251, .if_icmp .le 8, 3, [259], 0), (254, .bipush 8, 2, [], 0), (256, .goto 5, 3, [261], 0), (259, .bipush 6, 2, [], 0), (261, .putfield 131, 3, [10, 15, 1021], 0), (264, .goto 30, 3, [294], 0), (267, .aload_n 0, 1, [], 0), (268, .dup, 1, [], 0), (269, .getfield 118, 3, [10, 13, 1019], 0), (272, .iconst 1, 1, [], 0), (273, .iadd, 1, [], 0), (274, .putfield 118, 3, [10, 13, 1019], 0), (277, .aload_n 0, 1, [], 0), (278, .iload_n 1, 1, [], 0), (279, .bipush 59, 2, [], 0), (281, .if_icmp .ne 8, 3, [289], 0), (284, .bipush 7, 2, [], 0), (286, .goto 5, 3, [291], 0), (289, .bipush 8, 2, [], 0), (291, .putfield 131, 3, [10, 15, 1021], 0), (294, .return_, 1, [], 0)]
def P_X10_next : List (Nat × mE) := P_X10_next_c0 ++ (P_X10_next_c1 ++ (P_X10_next_c2))
def P_X10_due : List (Nat × mE) := [(0, .aload_n 0, 1, [], 0), (1, .getfield 128, 3, [10, 16, 1022], 0), (4, .istore_n 2, 1, [], 0), (5, .aload_n 0, 1, [], 0), (6, .getfield 138, 3, [10, 17, 1023], 0), (9, .bipush (-9), 2, [], 0), (11, .if_icmp .ne 22, 3, [33], 0), (14, .iload_n 1, 1, [], 0), (15, .ifCond .eq 10, 3, [25], 0), (18, .aload_n 0, 1, [], 0), (19, .invokevirtual 141, 3, [135, 0, 10, 1150, 1152, 42], 0), (22, .goto 11, 3, [33], 0), (25, .aload_n 0, 1, [], 0), (26, .aload_n 0, 1, [], 0), (27, .getfield 125, 3, [10, 14, 1020], 0), (30, .putfield 138, 3, [10, 17, 1023], 0), (33, .iload_n 2, 1, [], 0), (34, .ireturn, 1, [], 0)]
def P_X10_number : List (Nat × mE) := [(0, .aload_n 0, 1, [], 0), (1, .aload_n 0, 1, [], 0), (2, .getfield 131, 3, [10, 15, 1021], 0), (5, .bipush 6, 2, [], 0), (7, .if_icmp .ne 19, 3, [26], 0), (10, .aload_n 0, 1, [], 0), (11, .getfield 128, 3, [10, 16, 1022], 0), (14, .iload_n 1, 1, [], 0), (15, .iload_n 2, 1, [], 0), (16, .invokestatic 108, 3, [130, 3, 0, 1138, 1139], 0), (19, .ifCond .eq 7, 3, [26], 0), (22, .iconst 1, 1, [], 0), (23, .goto 4, 3, [27], 0), (26, .iconst 0, 1, [], 0), (27, .invokevirtual 144, 3, [136, 1, 10, 1165, 1167, 45], 0), (30, .ireturn, 1, [], 0)]
def P_X10_side : List (Nat × mE) := [(0, .aload_n 0, 1, [], 0), (1, .getfield 131, 3, [10, 15, 1021], 0), (4, .iconst 4, 1, [], 0), (5, .if_icmp .ne 7, 3, [12], 0), (8, .iconst 2, 1, [], 0), (9, .goto 20, 3, [29], 0), (12, .aload_n 0, 1, [], 0), (13, .getfield 131, 3, [10, 15, 1021], 0), (16, .iconst 3, 1, [], 0), (17, .if_icmp .ne 11, 3, [28], 0), (20, .iload_n 1, 1, [], 0), (21, .ifCond .eq 7, 3, [28], 0), (24, .iconst 1, 1, [], 0), (25, .goto 4, 3, [29], 0), (28, .iconst 0, 1, [], 0), (29, .istore_n 2, 1, [], 0), (30, .aload_n 0, 1, [], 0), (31, .getfield 138, 3, [10, 17, 1023], 0), (34, .bipush (-9), 2, [], 0), (36, .if_icmp .ne 11, 3, [47], 0), (39, .iload_n 2, 1, [], 0), (40, .ifCond .le 7, 3, [47], 0), (43, .aload_n 0, 1, [], 0), (44, .invokevirtual 141, 3, [135, 0, 10, 1150, 1152, 42], 0), (47, .iload_n 2, 1, [], 0), (48, .ireturn, 1, [], 0)]
def P_X10_readItem_c0 : List (Nat × mE) := [(0, .aload_n 0, 1, [], 0), (1, .getfield 131, 3, [10, 15, 1021], 0), (4, .istore_n 1, 1, [], 0), (5, .aload_n 0, 1, [], 0), (6, .iload_n 1, 1, [], 0), (7, .ifCond .ne 14, 3, [21], 0), (10, .aload_n 0, 1, [], 0), (11, .getfield 13, 3, [10, 3, 1009], 0), (14, .iconst 1, 1, [], 0), (15, .iaload, 1, [], 0), (16, .bipush 6, 2, [], 0), (18, .if_icmp .lt 35, 3, [53], 0), (21, .iload_n 1, 1, [], 0), (22, .iconst 1, 1, [], 0), (23, .if_icmp .ne 14, 3, [37], 0), (26, .aload_n 0, 1, [], 0), (27, .getfield 26, 3, [10, 7, 1013], 0), (30, .iconst 1, 1, [], 0), (31, .iaload, 1, [], 0), (32, .bipush 8, 2, [], 0), (34, .if_icmp .lt 19, 3, [53], 0), (37, .iload_n 1, 1, [], 0), (38, .iconst 2, 1, [], 0), (39, .if_icmp .ne 18, 3, [57], 0), (42, .aload_n 0, 1, [], 0), (43, .getfield 35, 3, [10, 10, 1016], 0), (46, .iconst 1, 1, [], 0), (47, .iaload, 1, [], 0), (48, .bipush 8, 2, [], 0), (50, .if_icmp .ge 7, 3, [57], 0), (53, .iconst 1, 1, [], 0), (54, .goto 4, 3, [58], 0), (57, .iconst 0, 1, [], 0), (58, .invokevirtual 144, 3, [136, 1, 10, 1165, 1167, 45], 0), (61, .pop, 1, [], 0), (62, .aload_n 0, 1, [], 0), (63, .getfield 138, 3, [10, 17, 1023], 0), (66, .bipush (-9), 2, [], 0), (68, .if_icmp .eq 4, 3, [72], 0), (71, .return_, 1, [], 0), (72, .iload_n 1, 1, [], 0), (73, .ifCond .ne 72, 3, [145], 0), (76, .bipush 6, 2, [], 0), (78, .aload_n 0, 1, [], 0), (79, .getfield 13, 3, [10, 3, 1009], 0), (82, .iconst 1, 1, [], 0), (83, .iaload, 1, [], 0), (84, .iadd, 1, [], 0), (85, .istore_n 2, 1, [], 0), (86, .aload_n 0, 1, [], 0), (87, .getfield 17, 3, [10, 4, 1010], 0), (90, .iload_n 2, 1, [], 0), (91, .aload_n 0, 1, [], 0), (92, .iconst 1, 1, [], 0), (93, .bipush 9, 2, [], 0), (95, .invokevirtual 148, 3, [137, 2, 10, 1169, 1171, 46], 0), (98, .iastore, 1, [], 0), (99, .aload_n 0, 1, [], 0), (100, .getfield 20, 3, [10, 5, 1011], 0), (103, .iload_n 2, 1, [], 0)]
def P_X10_readItem_c1 : List (Nat × mE) := [(104, .aload_n 0, 1, [], 0), (105, .iconst 1, 1, [], 0), (106, .bipush 9, 2, [], 0), (108, .invokevirtual 148, 3, [137, 2, 10, 1169, 1171, 46], 0), (111, .iastore, 1, [], 0), (112, .aload_n 0, 1, [], 0), (113, .getfield 23, 3, [10, 6, 1012], 0), (116, .iload_n 2, 1, [], 0), (117, .aload_n 0, 1, [], 0), (118, .iconst 0, 1, [], 0), (119, .invokevirtual 152, 3, [138, 1, 10, 1173, 1175, 47], 0), (122, .iconst 2, 1, [], 0), (123, .if_icmp .ne 7, 3, [130], 0), (126, .iconst 1, 1, [], 0), (127, .goto 4, 3, [131], 0), (130, .iconst 0, 1, [], 0), (131, .iastore, 1, [], 0), (132, .aload_n 0, 1, [], 0), (133, .getfield 13, 3, [10, 3, 1009], 0), (136, .iconst 1, 1, [], 0), (137, .dup2, 1, [], 0), (138, .iaload, 1, [], 0), (139, .iconst 1, 1, [], 0), (140, .iadd, 1, [], 0), (141, .iastore, 1, [], 0), (142, .goto 101, 3, [243], 0), (145, .iload_n 1, 1, [], 0), (146, .iconst 1, 1, [], 0), (147, .if_icmp .ne 50, 3, [197], 0), (150, .bipush 8, 2, [], 0), (152, .aload_n 0, 1, [], 0), (153, .getfield 26, 3, [10, 7, 1013], 0), (156, .iconst 1, 1, [], 0), (157, .iaload, 1, [], 0), (158, .iadd, 1, [], 0), (159, .istore_n 2, 1, [], 0), (160, .aload_n 0, 1, [], 0), (161, .getfield 29, 3, [10, 8, 1014], 0), (164, .iload_n 2, 1, [], 0), (165, .aload_n 0, 1, [], 0), (166, .iconst 1, 1, [], 0), (167, .bipush 9, 2, [], 0), (169, .invokevirtual 148, 3, [137, 2, 10, 1169, 1171, 46], 0), (172, .iastore, 1, [], 0), (173, .aload_n 0, 1, [], 0), (174, .getfield 32, 3, [10, 9, 1015], 0), (177, .iload_n 2, 1, [], 0), (178, .aload_n 0, 1, [], 0), (179, .iconst 1, 1, [], 0), (180, .invokevirtual 152, 3, [138, 1, 10, 1173, 1175, 47], 0), (183, .iastore, 1, [], 0), (184, .aload_n 0, 1, [], 0), (185, .getfield 26, 3, [10, 7, 1013], 0), (188, .iconst 1, 1, [], 0), (189, .dup2, 1, [], 0), (190, .iaload, 1, [], 0), (191, .iconst 1, 1, [], 0), (192, .iadd, 1, [], 0), (193, .iastore, 1, [], 0), (194, .goto 49, 3, [243], 0)]
def P_X10_readItem_c2 : List (Nat × mE) := [(197, .bipush 8, 2, [], 0), (199, .aload_n 0, 1, [], 0), (200, .getfield 35, 3, [10, 10, 1016], 0), (203, .iconst 1, 1, [], 0), (204, .iaload, 1, [], 0), (205, .iadd, 1, [], 0), (206, .istore_n 2, 1, [], 0), (207, .aload_n 0, 1, [], 0), (208, .getfield 38, 3, [10, 11, 1017], 0), (211, .iload_n 2, 1, [], 0), (212, .aload_n 0, 1, [], 0), (213, .iconst 1, 1, [], 0), (214, .bipush 99, 2, [], 0), (216, .invokevirtual 148, 3, [137, 2, 10, 1169, 1171, 46], 0), (219, .iastore, 1, [], 0), (220, .aload_n 0, 1, [], 0), (221, .getfield 41, 3, [10, 12, 1018], 0), (224, .iload_n 2, 1, [], 0), (225, .aload_n 0, 1, [], 0), (226, .iconst 1, 1, [], 0), (227, .bipush 9, 2, [], 0), (229, .invokevirtual 148, 3, [137, 2, 10, 1169, 1171, 46], 0), (232, .iastore, 1, [], 0), (233, .aload_n 0, 1, [], 0), (234, .getfield 35, 3, [10, 10, 1016], 0), (237, .iconst 1, 1, [], 0), (238, .dup2, 1, [], 0), (239, .iaload, 1, [], 0), (240, .iconst 1, 1, [], 0), (241, .iadd, 1, [], 0), (242, .iastore, 1, [], 0), (243, .aload_n 0, 1, [], 0), (244, .aload_n 0, 1, [], 0), (245, .getfield 131, 3, [10, 15, 1021], 0), (248, .bipush 7, 2, [], 0), (250, .if_icmp .ne 7, 3, [257], 0), (253, .iconst 1, 1, [], 0), (254, .goto 4, 3, [258], 0), (257, .iconst 0, 1, [], 0), (258, .invokevirtual 144, 3, [136, 1, 10, 1165, 1167, 45], 0), (261, .pop, 1, [], 0), (262, .return_, 1, [], 0)]
def P_X10_readItem : List (Nat × mE) := P_X10_readItem_c0 ++ (P_X10_readItem_c1 ++ (P_X10_readItem_c2))
def P_X10_gang_c0 : List (Nat × mE) := [(0, .aload_n 0, 1, [], 0), (1, .iconst 0, 1, [], 0), (2, .putfield 118, 3, [10, 13, 1019], 0), (5, .aload_n 0, 1, [], 0), (6, .bipush (-9), 2, [], 0), (8, .putfield 138, 3, [10, 17, 1023], 0), (11, .aload_n 0, 1, [], 0), (12, .getfield 13, 3, [10, 3, 1009], 0), (15, .iconst 1, 1, [], 0), (16, .iconst 0, 1, [], 0), (17, .iastore, 1, [], 0), (18, .aload_n 0, 1, [], 0), (19, .getfield 26, 3, [10, 7, 1013], 0), (22, .iconst 1, 1, [], 0), (23, .iconst 0, 1, [], 0), (24, .iastore, 1, [], 0), (25, .aload_n 0, 1, [], 0), (26, .getfield 35, 3, [10, 10, 1016], 0), (29, .iconst 1, 1, [], 0), (30, .iconst 0, 1, [], 0), (31, .iastore, 1, [], 0), (32, .iconst 0, 1, [], 0), (33, .istore_n 1, 1, [], 0), (34, .aload_n 0, 1, [], 0), (35, .invokevirtual 141, 3, [135, 0, 10, 1150, 1152, 42], 0), (38, .aload_n 0, 1, [], 0), (39, .getfield 138, 3, [10, 17, 1023], 0), (42, .bipush (-9), 2, [], 0), (44, .if_icmp .ne 21, 3, [65], 0), (47, .aload_n 0, 1, [], 0), (48, .getfield 131, 3, [10, 15, 1021], 0), (51, .iconst 5, 1, [], 0), (52, .if_icmp .eq 13, 3, [65], 0), (55, .aload_n 0, 1, [], 0), (56, .invokevirtual 155, 3, [139, 0, 10, 1161, 1163, 44], 0), (59, .iinc 1 1, 3, [], 0), (62, .goto (-24), 3, [38], 0), (65, .aload_n 0, 1, [], 0), (66, .getfield 138, 3, [10, 17, 1023], 0), (69, .bipush (-9), 2, [], 0), (71, .if_icmp .eq 11, 3, [82], 0), (74, .bipush (-10), 2, [], 0), (76, .aload_n 0, 1, [], 0), (77, .getfield 138, 3, [10, 17, 1023], 0), (80, .isub, 1, [], 0), (81, .ireturn, 1, [], 0), (82, .aload_n 0, 1, [], 0), (83, .getfield 13, 3, [10, 3, 1009], 0), (86, .iconst 0, 1, [], 0), (87, .aload_n 0, 1, [], 0), (88, .getfield 13, 3, [10, 3, 1009], 0), (91, .iconst 1, 1, [], 0), (92, .iaload, 1, [], 0), (93, .iastore, 1, [], 0), (94, .aload_n 0, 1, [], 0), (95, .getfield 26, 3, [10, 7, 1013], 0), (98, .iconst 0, 1, [], 0), (99, .aload_n 0, 1, [], 0), (100, .getfield 26, 3, [10, 7, 1013], 0), (103, .iconst 1, 1, [], 0)]
def P_X10_gang_c1 : List (Nat × mE) := [(104, .iaload, 1, [], 0), (105, .iastore, 1, [], 0), (106, .aload_n 0, 1, [], 0), (107, .getfield 35, 3, [10, 10, 1016], 0), (110, .iconst 0, 1, [], 0), (111, .aload_n 0, 1, [], 0), (112, .getfield 35, 3, [10, 10, 1016], 0), (115, .iconst 1, 1, [], 0), (116, .iaload, 1, [], 0), (117, .iastore, 1, [], 0), (118, .iconst 0, 1, [], 0), (119, .istore_n 2, 1, [], 0), (120, .iload_n 2, 1, [], 0), (121, .bipush 6, 2, [], 0), (123, .if_icmp .ge 54, 3, [177], 0), (126, .aload_n 0, 1, [], 0), (127, .getfield 17, 3, [10, 4, 1010], 0), (130, .iload_n 2, 1, [], 0), (131, .aload_n 0, 1, [], 0), (132, .getfield 17, 3, [10, 4, 1010], 0), (135, .bipush 6, 2, [], 0), (137, .iload_n 2, 1, [], 0), (138, .iadd, 1, [], 0), (139, .iaload, 1, [], 0), (140, .iastore, 1, [], 0), (141, .aload_n 0, 1, [], 0), (142, .getfield 20, 3, [10, 5, 1011], 0), (145, .iload_n 2, 1, [], 0), (146, .aload_n 0, 1, [], 0), (147, .getfield 20, 3, [10, 5, 1011], 0), (150, .bipush 6, 2, [], 0), (152, .iload_n 2, 1, [], 0), (153, .iadd, 1, [], 0), (154, .iaload, 1, [], 0), (155, .iastore, 1, [], 0), (156, .aload_n 0, 1, [], 0), (157, .getfield 23, 3, [10, 6, 1012], 0), (160, .iload_n 2, 1, [], 0), (161, .aload_n 0, 1, [], 0), (162, .getfield 23, 3, [10, 6, 1012], 0), (165, .bipush 6, 2, [], 0), (167, .iload_n 2, 1, [], 0), (168, .iadd, 1, [], 0), (169, .iaload, 1, [], 0), (170, .iastore, 1, [], 0), (171, .iinc 2 1, 3, [], 0), (174, .goto (-54), 3, [120], 0), (177, .iconst 0, 1, [], 0), (178, .istore_n 2, 1, [], 0), (179, .iload_n 2, 1, [], 0), (180, .bipush 8, 2, [], 0), (182, .if_icmp .ge 69, 3, [251], 0), (185, .aload_n 0, 1, [], 0), (186, .getfield 29, 3, [10, 8, 1014], 0), (189, .iload_n 2, 1, [], 0), (190, .aload_n 0, 1, [], 0), (191, .getfield 29, 3, [10, 8, 1014], 0), (194, .bipush 8, 2, [], 0), (196, .iload_n 2, 1, [], 0), (197, .iadd, 1, [], 0)]
def P_X10_gang_c2 : List (Nat × mE) := [(198, .iaload, 1, [], 0), (199, .iastore, 1, [], 0), (200, .aload_n 0, 1, [], 0), (201, .getfield 32, 3, [10, 9, 1015], 0), (204, .iload_n 2, 1, [], 0), (205, .aload_n 0, 1, [], 0), (206, .getfield 32, 3, [10, 9, 1015], 0), (209, .bipush 8, 2, [], 0), (211, .iload_n 2, 1, [], 0), (212, .iadd, 1, [], 0), (213, .iaload, 1, [], 0), (214, .iastore, 1, [], 0), (215, .aload_n 0, 1, [], 0), (216, .getfield 38, 3, [10, 11, 1017], 0), (219, .iload_n 2, 1, [], 0), (220, .aload_n 0, 1, [], 0), (221, .getfield 38, 3, [10, 11, 1017], 0), (224, .bipush 8, 2, [], 0), (226, .iload_n 2, 1, [], 0), (227, .iadd, 1, [], 0), (228, .iaload, 1, [], 0), (229, .iastore, 1, [], 0), (230, .aload_n 0, 1, [], 0), (231, .getfield 41, 3, [10, 12, 1018], 0), (234, .iload_n 2, 1, [], 0), (235, .aload_n 0, 1, [], 0), (236, .getfield 41, 3, [10, 12, 1018], 0), (239, .bipush 8, 2, [], 0), (241, .iload_n 2, 1, [], 0), (242, .iadd, 1, [], 0), (243, .iaload, 1, [], 0), (244, .iastore, 1, [], 0), (245, .iinc 2 1, 3, [], 0), (248, .goto (-69), 3, [179], 0), (251, .aload_n 0, 1, [], 0), (252, .invokevirtual 158, 3, [154, 0, 10, 1177, 1178, 1179], 0), (255, .pop, 1, [], 0), (256, .aload_n 0, 1, [], 0), (257, .iconst 0, 1, [], 0), (258, .putfield 161, 3, [10, 38, 1044], 0), (261, .aload_n 0, 1, [], 0), (262, .getfield 47, 3, [10, 19, 1025], 0), (265, .iconst 0, 1, [], 0), (266, .iconst 0, 1, [], 0), (267, .bastore, 1, [], 0), (268, .aload_n 0, 1, [], 0), (269, .getfield 47, 3, [10, 19, 1025], 0), (272, .iconst 1, 1, [], 0), (273, .iconst 0, 1, [], 0), (274, .bastore, 1, [], 0), (275, .aload_n 0, 1, [], 0), (276, .iconst 0, 1, [], 0), (277, .putfield 112, 3, [10, 2, 1008], 0), (280, .iload_n 1, 1, [], 0), (281, .ireturn, 1, [], 0)]
def P_X10_gang : List (Nat × mE) := P_X10_gang_c0 ++ (P_X10_gang_c1 ++ (P_X10_gang_c2))
def P_X10_isDigger : List (Nat × mE) := [(0, .iload_n 1, 1, [], 0), (1, .iconst 0, 1, [], 0), (2, .aload_n 0, 1, [], 0), (3, .getfield 13, 3, [10, 3, 1009], 0), (6, .iconst 0, 1, [], 0), (7, .iaload, 1, [], 0), (8, .iconst 1, 1, [], 0), (9, .isub, 1, [], 0), (10, .invokestatic 108, 3, [130, 3, 0, 1138, 1139], 0), (13, .ireturn, 1, [], 0)]
def P_X10_isSpade : List (Nat × mE) := [(0, .iload_n 1, 1, [], 0), (1, .iconst 0, 1, [], 0), (2, .aload_n 0, 1, [], 0), (3, .getfield 26, 3, [10, 7, 1013], 0), (6, .iconst 0, 1, [], 0), (7, .iaload, 1, [], 0), (8, .iconst 1, 1, [], 0), (9, .isub, 1, [], 0), (10, .invokestatic 108, 3, [130, 3, 0, 1138, 1139], 0), (13, .ireturn, 1, [], 0)]
def P_X10_bitsIn : List (Nat × mE) := [(0, .iconst 0, 1, [], 0), (1, .istore_n 1, 1, [], 0), (2, .iconst 0, 1, [], 0), (3, .istore_n 2, 1, [], 0), (4, .iload_n 2, 1, [], 0), (5, .bipush 8, 2, [], 0), (7, .if_icmp .ge 17, 3, [24], 0), (10, .iload_n 1, 1, [], 0), (11, .iload_n 0, 1, [], 0), (12, .iload_n 2, 1, [], 0), (13, .ishr, 1, [], 0), (14, .iconst 1, 1, [], 0), (15, .iand, 1, [], 0), (16, .iadd, 1, [], 0), (17, .istore_n 1, 1, [], 0), (18, .iinc 2 1, 3, [], 0), (21, .goto (-17), 3, [4], 0), (24, .iload_n 1, 1, [], 0), (25, .ireturn, 1, [], 0)]
def P_X10_digger : List (Nat × mE) := [(0, .aload_n 0, 1, [], 0), (1, .iload_n 1, 1, [], 0), (2, .invokevirtual 164, 3, [141, 1, 10, 1185, 1187, 48], 0), (5, .ifCond .eq 12, 3, [17], 0), (8, .iload_n 2, 1, [], 0), (9, .iconst 0, 1, [], 0), (10, .iconst 3, 1, [], 0), (11, .invokestatic 108, 3, [130, 3, 0, 1138, 1139], 0), (14, .ifCond .ne 5, 3, [19], 0), (17, .iconst (-1), 1, [], 0), (18, .ireturn, 1, [], 0), (19, .iload_n 2, 1, [], 0), (20, .ifCond .ne 12, 3, [32], 0), (23, .aload_n 0, 1, [], 0), (24, .getfield 17, 3, [10, 4, 1010], 0), (27, .iload_n 1, 1, [], 0), (28, .iaload, 1, [], 0), (29, .goto 40, 3, [69], 0), (32, .iload_n 2, 1, [], 0), (33, .iconst 1, 1, [], 0), (34, .if_icmp .ne 12, 3, [46], 0), (37, .aload_n 0, 1, [], 0), (38, .getfield 20, 3, [10, 5, 1011], 0), (41, .iload_n 1, 1, [], 0), (42, .iaload, 1, [], 0), (43, .goto 26, 3, [69], 0), (46, .iload_n 2, 1, [], 0), (47, .iconst 2, 1, [], 0), (48, .if_icmp .ne 12, 3, [60], 0), (51, .aload_n 0, 1, [], 0), (52, .getfield 23, 3, [10, 6, 1012], 0), (55, .iload_n 1, 1, [], 0), (56, .iaload, 1, [], 0), (57, .goto 12, 3, [69], 0), (60, .aload_n 0, 1, [], 0), (61, .getfield 44, 3, [10, 18, 1024], 0), (64, .bipush 6, 2, [], 0), (66, .iload_n 1, 1, [], 0), (67, .iadd, 1, [], 0), (68, .iaload, 1, [], 0), (69, .ireturn, 1, [], 0)]
def P_X10_spade : List (Nat × mE) := [(0, .aload_n 0, 1, [], 0), (1, .iload_n 1, 1, [], 0), (2, .invokevirtual 168, 3, [142, 1, 10, 1193, 1195, 49], 0), (5, .ifCond .eq 12, 3, [17], 0), (8, .iload_n 2, 1, [], 0), (9, .iconst 0, 1, [], 0), (10, .iconst 2, 1, [], 0), (11, .invokestatic 108, 3, [130, 3, 0, 1138, 1139], 0), (14, .ifCond .ne 5, 3, [19], 0), (17, .iconst (-1), 1, [], 0), (18, .ireturn, 1, [], 0), (19, .iload_n 2, 1, [], 0), (20, .ifCond .ne 12, 3, [32], 0), (23, .aload_n 0, 1, [], 0), (24, .getfield 29, 3, [10, 8, 1014], 0), (27, .iload_n 1, 1, [], 0), (28, .iaload, 1, [], 0), (29, .goto 27, 3, [56], 0), (32, .iload_n 2, 1, [], 0), (33, .iconst 1, 1, [], 0), (34, .if_icmp .ne 12, 3, [46], 0), (37, .aload_n 0, 1, [], 0), (38, .getfield 32, 3, [10, 9, 1015], 0), (41, .iload_n 1, 1, [], 0), (42, .iaload, 1, [], 0), (43, .goto 13, 3, [56], 0), (46, .aload_n 0, 1, [], 0), (47, .getfield 44, 3, [10, 18, 1024], 0), (50, .iconst 5, 1, [], 0), (51, .iaload, 1, [], 0), (52, .iload_n 1, 1, [], 0), (53, .ishr, 1, [], 0), (54, .iconst 1, 1, [], 0), (55, .iand, 1, [], 0), (56, .ireturn, 1, [], 0)]
def P_X10_yard : List (Nat × mE) := [(0, .iload_n 1, 1, [], 0), (1, .iconst 0, 1, [], 0), (2, .aload_n 0, 1, [], 0), (3, .getfield 35, 3, [10, 10, 1016], 0), (6, .iconst 0, 1, [], 0), (7, .iaload, 1, [], 0), (8, .iconst 1, 1, [], 0), (9, .isub, 1, [], 0), (10, .invokestatic 108, 3, [130, 3, 0, 1138, 1139], 0), (13, .ifCond .eq 12, 3, [25], 0), (16, .iload_n 2, 1, [], 0), (17, .iconst 0, 1, [], 0), (18, .iconst 2, 1, [], 0), (19, .invokestatic 108, 3, [130, 3, 0, 1138, 1139], 0), (22, .ifCond .ne 5, 3, [27], 0), (25, .iconst (-1), 1, [], 0), (26, .ireturn, 1, [], 0), (27, .iload_n 2, 1, [], 0), (28, .ifCond .ne 12, 3, [40], 0), (31, .aload_n 0, 1, [], 0), (32, .getfield 38, 3, [10, 11, 1017], 0), (35, .iload_n 1, 1, [], 0), (36, .iaload, 1, [], 0), (37, .goto 26, 3, [63], 0), (40, .iload_n 2, 1, [], 0), (41, .iconst 1, 1, [], 0), (42, .if_icmp .ne 12, 3, [54], 0), (45, .aload_n 0, 1, [], 0), (46, .getfield 41, 3, [10, 12, 1018], 0), (49, .iload_n 1, 1, [], 0), (50, .iaload, 1, [], 0), (51, .goto 12, 3, [63], 0), (54, .aload_n 0, 1, [], 0), (55, .getfield 44, 3, [10, 18, 1024], 0), (58, .bipush 12, 2, [], 0), (60, .iload_n 1, 1, [], 0), (61, .iadd, 1, [], 0), (62, .iaload, 1, [], 0), (63, .ireturn, 1, [], 0)]
def P_X10_mayNow : List (Nat × mE) := [(0, .aload_n 0, 1, [], 0), (1, .getfield 32, 3, [10, 9, 1015], 0), (4, .iload_n 2, 1, [], 0), (5, .iaload, 1, [], 0), (6, .ifCond .eq 20, 3, [26], 0), (9, .aload_n 0, 1, [], 0), (10, .getfield 32, 3, [10, 9, 1015], 0), (13, .iload_n 2, 1, [], 0), (14, .iaload, 1, [], 0), (15, .iconst 1, 1, [], 0), (16, .isub, 1, [], 0), (17, .aload_n 0, 1, [], 0), (18, .getfield 23, 3, [10, 6, 1012], 0), (21, .iload_n 1, 1, [], 0), (22, .iaload, 1, [], 0), (23, .if_icmp .ne 7, 3, [30], 0), (26, .iconst 1, 1, [], 0), (27, .goto 4, 3, [31], 0), (30, .iconst 0, 1, [], 0), (31, .istore_n 3, 1, [], 0), (32, .iload_n 3, 1, [], 0), (33, .ifCond .eq 36, 3, [69], 0), (36, .aload_n 0, 1, [], 0), (37, .getfield 44, 3, [10, 18, 1024], 0), (40, .iconst 5, 1, [], 0), (41, .iaload, 1, [], 0), (42, .iload_n 2, 1, [], 0), (43, .ishr, 1, [], 0), (44, .iconst 1, 1, [], 0), (45, .iand, 1, [], 0), (46, .ifCond .ne 23, 3, [69], 0), (49, .aload_n 0, 1, [], 0), (50, .getfield 44, 3, [10, 18, 1024], 0), (53, .bipush 6, 2, [], 0), (55, .iload_n 1, 1, [], 0), (56, .iadd, 1, [], 0), (57, .iaload, 1, [], 0), (58, .iload_n 2, 1, [], 0), (59, .ishr, 1, [], 0), (60, .iconst 1, 1, [], 0), (61, .iand, 1, [], 0), (62, .ifCond .ne 7, 3, [69], 0), (65, .iconst 1, 1, [], 0), (66, .goto 4, 3, [70], 0), (69, .iconst 0, 1, [], 0), (70, .ireturn, 1, [], 0)]
def P_X10_may : List (Nat × mE) := [(0, .aload_n 0, 1, [], 0), (1, .iload_n 1, 1, [], 0), (2, .invokevirtual 164, 3, [141, 1, 10, 1185, 1187, 48], 0), (5, .ifCond .eq 28, 3, [33], 0), (8, .aload_n 0, 1, [], 0), (9, .iload_n 2, 1, [], 0), (10, .invokevirtual 168, 3, [142, 1, 10, 1193, 1195, 49], 0), (13, .ifCond .eq 20, 3, [33], 0), (16, .aload_n 0, 1, [], 0), (17, .iload_n 1, 1, [], 0), (18, .iload_n 2, 1, [], 0), (19, .invokevirtual 171, 3, [147, 2, 10, 1205, 1207, 50], 0), (22, .ifCond .eq 7, 3, [29], 0), (25, .iconst 1, 1, [], 0), (26, .goto 8, 3, [34], 0), (29, .iconst 0, 1, [], 0), (30, .goto 4, 3, [34], 0), (33, .iconst (-1), 1, [], 0), (34, .ireturn, 1, [], 0)]
def P_X10_yardNow : List (Nat × mE) := [(0, .iconst 0, 1, [], 0), (1, .istore_n 1, 1, [], 0), (2, .iload_n 1, 1, [], 0), (3, .aload_n 0, 1, [], 0), (4, .getfield 35, 3, [10, 10, 1016], 0), (7, .iconst 0, 1, [], 0), (8, .iaload, 1, [], 0), (9, .if_icmp .ge 27, 3, [36], 0), (12, .aload_n 0, 1, [], 0), (13, .getfield 44, 3, [10, 18, 1024], 0), (16, .bipush 12, 2, [], 0), (18, .iload_n 1, 1, [], 0), (19, .iadd, 1, [], 0), (20, .iaload, 1, [], 0), (21, .aload_n 0, 1, [], 0), (22, .getfield 38, 3, [10, 11, 1017], 0), (25, .iload_n 1, 1, [], 0), (26, .iaload, 1, [], 0), (27, .if_icmp .ne 9, 3, [36], 0), (30, .iinc 1 1, 3, [], 0), (33, .goto (-31), 3, [2], 0), (36, .iload_n 1, 1, [], 0), (37, .ireturn, 1, [], 0)]
def P_X10_throwWith_c0 : List (Nat × mE) := [(0, .aload_n 0, 1, [], 0), (1, .iload_n 1, 1, [], 0), (2, .invokevirtual 164, 3, [141, 1, 10, 1185, 1187, 48], 0), (5, .ifCond .eq 11, 3, [16], 0), (8, .aload_n 0, 1, [], 0), (9, .iload_n 2, 1, [], 0), (10, .invokevirtual 168, 3, [142, 1, 10, 1193, 1195, 49], 0), (13, .ifCond .ne 5, 3, [18], 0), (16, .iconst (-1), 1, [], 0), (17, .ireturn, 1, [], 0), (18, .aload_n 0, 1, [], 0), (19, .iload_n 1, 1, [], 0), (20, .iload_n 2, 1, [], 0), (21, .invokevirtual 171, 3, [147, 2, 10, 1205, 1207, 50], 0), (24, .ifCond .eq 31, 3, [55], 0), (27, .aload_n 0, 1, [], 0), (28, .getfield 44, 3, [10, 18, 1024], 0), (31, .iconst 3, 1, [], 0), (32, .iaload, 1, [], 0), (33, .iload_n 1, 1, [], 0), (34, .ishr, 1, [], 0), (35, .iconst 1, 1, [], 0), (36, .iand, 1, [], 0), (37, .iconst 1, 1, [], 0), (38, .if_icmp .eq 17, 3, [55], 0), (41, .aload_n 0, 1, [], 0), (42, .getfield 44, 3, [10, 18, 1024], 0), (45, .iconst 4, 1, [], 0), (46, .iaload, 1, [], 0), (47, .iload_n 2, 1, [], 0), (48, .ishr, 1, [], 0), (49, .iconst 1, 1, [], 0), (50, .iand, 1, [], 0), (51, .iconst 1, 1, [], 0), (52, .if_icmp .ne 6, 3, [58], 0), (55, .bipush (-2), 2, [], 0), (57, .ireturn, 1, [], 0), (58, .aload_n 0, 1, [], 0), (59, .getfield 44, 3, [10, 18, 1024], 0), (62, .bipush 6, 2, [], 0), (64, .iload_n 1, 1, [], 0), (65, .iadd, 1, [], 0), (66, .dup2, 1, [], 0), (67, .iaload, 1, [], 0), (68, .iconst 1, 1, [], 0), (69, .iload_n 2, 1, [], 0), (70, .ishl, 1, [], 0), (71, .ior, 1, [], 0), (72, .iastore, 1, [], 0), (73, .aload_n 0, 1, [], 0), (74, .getfield 44, 3, [10, 18, 1024], 0), (77, .iconst 3, 1, [], 0), (78, .dup2, 1, [], 0), (79, .iaload, 1, [], 0), (80, .iconst 1, 1, [], 0), (81, .iload_n 1, 1, [], 0), (82, .ishl, 1, [], 0), (83, .ior, 1, [], 0), (84, .iastore, 1, [], 0), (85, .aload_n 0, 1, [], 0)]
def P_X10_throwWith_c1 : List (Nat × mE) := [(86, .getfield 44, 3, [10, 18, 1024], 0), (89, .iconst 4, 1, [], 0), (90, .dup2, 1, [], 0), (91, .iaload, 1, [], 0), (92, .iconst 1, 1, [], 0), (93, .iload_n 2, 1, [], 0), (94, .ishl, 1, [], 0), (95, .ior, 1, [], 0), (96, .iastore, 1, [], 0), (97, .aload_n 0, 1, [], 0), (98, .invokevirtual 175, 3, [149, 0, 10, 1213, 1215, 51], 0), (101, .istore_n 3, 1, [], 0), (102, .aload_n 0, 1, [], 0), (103, .getfield 17, 3, [10, 4, 1010], 0), (106, .iload_n 1, 1, [], 0), (107, .iaload, 1, [], 0), (108, .aload_n 0, 1, [], 0), (109, .getfield 29, 3, [10, 8, 1014], 0), (112, .iload_n 2, 1, [], 0), (113, .iaload, 1, [], 0), (114, .imul, 1, [], 0), (115, .istore 4, 2, [], 0), (117, .iload_n 3, 1, [], 0), (118, .aload_n 0, 1, [], 0), (119, .getfield 35, 3, [10, 10, 1016], 0), (122, .iconst 0, 1, [], 0), (123, .iaload, 1, [], 0), (124, .if_icmp .ge 98, 3, [222], 0), (127, .iload 4, 2, [], 0), (129, .aload_n 0, 1, [], 0), (130, .getfield 41, 3, [10, 12, 1018], 0), (133, .iload_n 3, 1, [], 0), (134, .iaload, 1, [], 0), (135, .idiv, 1, [], 0), (136, .iconst 1, 1, [], 0), (137, .if_icmp .ge 7, 3, [144], 0), (140, .iconst 1, 1, [], 0), (141, .goto 12, 3, [153], 0), (144, .iload 4, 2, [], 0), (146, .aload_n 0, 1, [], 0), (147, .getfield 41, 3, [10, 12, 1018], 0), (150, .iload_n 3, 1, [], 0), (151, .iaload, 1, [], 0), (152, .idiv, 1, [], 0), (153, .istore 4, 2, [], 0), (155, .aload_n 0, 1, [], 0), (156, .getfield 38, 3, [10, 11, 1017], 0), (159, .iload_n 3, 1, [], 0), (160, .iaload, 1, [], 0), (161, .aload_n 0, 1, [], 0), (162, .getfield 44, 3, [10, 18, 1024], 0), (165, .bipush 12, 2, [], 0), (167, .iload_n 3, 1, [], 0), (168, .iadd, 1, [], 0), (169, .iaload, 1, [], 0), (170, .isub, 1, [], 0), (171, .istore 5, 2, [], 0), (173, .aload_n 0, 1, [], 0), (174, .getfield 44, 3, [10, 18, 1024], 0), (177, .bipush 12, 2, [], 0)]
def P_X10_throwWith_c2 : List (Nat × mE) := [(179, .iload_n 3, 1, [], 0), (180, .iadd, 1, [], 0), (181, .dup2, 1, [], 0), (182, .iaload, 1, [], 0), (183, .iload 4, 2, [], 0), (185, .iload 5, 2, [], 0), (187, .if_icmp .ge 8, 3, [195], 0), (190, .iload 4, 2, [], 0), (192, .goto 5, 3, [197], 0), (195, .iload 5, 2, [], 0), (197, .iadd, 1, [], 0), (198, .iastore, 1, [], 0), (199, .aload_n 0, 1, [], 0), (200, .getfield 44, 3, [10, 18, 1024], 0), (203, .iconst 2, 1, [], 0), (204, .dup2, 1, [], 0), (205, .iaload, 1, [], 0), (206, .iload 4, 2, [], 0), (208, .iload 5, 2, [], 0), (210, .if_icmp .ge 8, 3, [218], 0), (213, .iload 4, 2, [], 0), (215, .goto 5, 3, [220], 0), (218, .iload 5, 2, [], 0), (220, .iadd, 1, [], 0), (221, .iastore, 1, [], 0), (222, .iload 4, 2, [], 0), (224, .ireturn, 1, [], 0)]
def P_X10_throwWith : List (Nat × mE) := P_X10_throwWith_c0 ++ (P_X10_throwWith_c1 ++ (P_X10_throwWith_c2))
def P_X10_ends_c0 : List (Nat × mE) := [(0, .iconst 0, 1, [], 0), (1, .istore_n 1, 1, [], 0), (2, .iconst 0, 1, [], 0), (3, .istore_n 2, 1, [], 0), (4, .iload_n 2, 1, [], 0), (5, .aload_n 0, 1, [], 0), (6, .getfield 13, 3, [10, 3, 1009], 0), (9, .iconst 0, 1, [], 0), (10, .iaload, 1, [], 0), (11, .if_icmp .ge 44, 3, [55], 0), (14, .aload_n 0, 1, [], 0), (15, .getfield 44, 3, [10, 18, 1024], 0), (18, .iconst 3, 1, [], 0), (19, .iaload, 1, [], 0), (20, .iload_n 2, 1, [], 0), (21, .ishr, 1, [], 0), (22, .iconst 1, 1, [], 0), (23, .iand, 1, [], 0), (24, .iconst 1, 1, [], 0), (25, .if_icmp .ne 22, 3, [47], 0), (28, .aload_n 0, 1, [], 0), (29, .getfield 20, 3, [10, 5, 1011], 0), (32, .iload_n 2, 1, [], 0), (33, .iaload, 1, [], 0), (34, .iload_n 1, 1, [], 0), (35, .if_icmp .le 12, 3, [47], 0), (38, .aload_n 0, 1, [], 0), (39, .getfield 20, 3, [10, 5, 1011], 0), (42, .iload_n 2, 1, [], 0), (43, .iaload, 1, [], 0), (44, .goto 4, 3, [48], 0), (47, .iload_n 1, 1, [], 0), (48, .istore_n 1, 1, [], 0), (49, .iinc 2 1, 3, [], 0), (52, .goto (-48), 3, [4], 0), (55, .aload_n 0, 1, [], 0), (56, .getfield 44, 3, [10, 18, 1024], 0), (59, .iconst 1, 1, [], 0), (60, .dup2, 1, [], 0), (61, .iaload, 1, [], 0), (62, .iload_n 1, 1, [], 0), (63, .iadd, 1, [], 0), (64, .iastore, 1, [], 0), (65, .aload_n 0, 1, [], 0), (66, .getfield 44, 3, [10, 18, 1024], 0), (69, .iconst 3, 1, [], 0), (70, .iconst 0, 1, [], 0), (71, .iastore, 1, [], 0), (72, .aload_n 0, 1, [], 0), (73, .getfield 44, 3, [10, 18, 1024], 0), (76, .iconst 4, 1, [], 0), (77, .iconst 0, 1, [], 0), (78, .iastore, 1, [], 0), (79, .aload_n 0, 1, [], 0), (80, .getfield 44, 3, [10, 18, 1024], 0), (83, .iconst 0, 1, [], 0), (84, .dup2, 1, [], 0), (85, .iaload, 1, [], 0), (86, .iconst 1, 1, [], 0), (87, .iadd, 1, [], 0)]
def P_X10_ends_c1 : List (Nat × mE) := [(88, .iastore, 1, [], 0), (89, .iload_n 1, 1, [], 0), (90, .ireturn, 1, [], 0)]
def P_X10_ends : List (Nat × mE) := P_X10_ends_c0 ++ (P_X10_ends_c1)
def P_X10_breaks : List (Nat × mE) := [(0, .aload_n 0, 1, [], 0), (1, .iload_n 1, 1, [], 0), (2, .invokevirtual 168, 3, [142, 1, 10, 1193, 1195, 49], 0), (5, .ifCond .ne 5, 3, [10], 0), (8, .iconst (-1), 1, [], 0), (9, .ireturn, 1, [], 0), (10, .aload_n 0, 1, [], 0), (11, .getfield 44, 3, [10, 18, 1024], 0), (14, .iconst 5, 1, [], 0), (15, .iaload, 1, [], 0), (16, .iload_n 1, 1, [], 0), (17, .ishr, 1, [], 0), (18, .iconst 1, 1, [], 0), (19, .iand, 1, [], 0), (20, .istore_n 2, 1, [], 0), (21, .aload_n 0, 1, [], 0), (22, .getfield 44, 3, [10, 18, 1024], 0), (25, .iconst 5, 1, [], 0), (26, .dup2, 1, [], 0), (27, .iaload, 1, [], 0), (28, .iconst 1, 1, [], 0), (29, .iload_n 1, 1, [], 0), (30, .ishl, 1, [], 0), (31, .ior, 1, [], 0), (32, .iastore, 1, [], 0), (33, .iconst 1, 1, [], 0), (34, .iload_n 2, 1, [], 0), (35, .isub, 1, [], 0), (36, .ireturn, 1, [], 0)]
def P_X10_now : List (Nat × mE) := [(0, .iload_n 1, 1, [], 0), (1, .tableswitch 79 0 5 #[39, 46, 53, 60, 65, 72], 39, [], 0), (40, .aload_n 0, 1, [], 0), (41, .getfield 44, 3, [10, 18, 1024], 0), (44, .iconst 0, 1, [], 0), (45, .iaload, 1, [], 0), (46, .ireturn, 1, [], 0), (47, .aload_n 0, 1, [], 0), (48, .getfield 44, 3, [10, 18, 1024], 0), (51, .iconst 1, 1, [], 0), (52, .iaload, 1, [], 0), (53, .ireturn, 1, [], 0), (54, .aload_n 0, 1, [], 0), (55, .getfield 44, 3, [10, 18, 1024], 0), (58, .iconst 2, 1, [], 0), (59, .iaload, 1, [], 0), (60, .ireturn, 1, [], 0), (61, .aload_n 0, 1, [], 0), (62, .invokevirtual 175, 3, [149, 0, 10, 1213, 1215, 51], 0), (65, .ireturn, 1, [], 0), (66, .aload_n 0, 1, [], 0), (67, .getfield 44, 3, [10, 18, 1024], 0), (70, .iconst 3, 1, [], 0), (71, .iaload, 1, [], 0), (72, .ireturn, 1, [], 0), (73, .aload_n 0, 1, [], 0), (74, .getfield 44, 3, [10, 18, 1024], 0), (77, .iconst 4, 1, [], 0), (78, .iaload, 1, [], 0), (79, .ireturn, 1, [], 0), (80, .iconst (-1), 1, [], 0), (81, .ireturn, 1, [], 0)]
def P_X10_anew : List (Nat × mE) := [(0, .aload_n 0, 1, [], 0), (1, .getfield 44, 3, [10, 18, 1024], 0), (4, .iconst 0, 1, [], 0), (5, .iaload, 1, [], 0), (6, .istore_n 1, 1, [], 0), (7, .iconst 0, 1, [], 0), (8, .istore_n 2, 1, [], 0), (9, .iload_n 2, 1, [], 0), (10, .bipush 20, 2, [], 0), (12, .if_icmp .ge 16, 3, [28], 0), (15, .aload_n 0, 1, [], 0), (16, .getfield 44, 3, [10, 18, 1024], 0), (19, .iload_n 2, 1, [], 0), (20, .iconst 0, 1, [], 0), (21, .iastore, 1, [], 0), (22, .iinc 2 1, 3, [], 0), (25, .goto (-16), 3, [9], 0), (28, .iload_n 1, 1, [], 0), (29, .ireturn, 1, [], 0)]
def P_X10_findEdges : List (Nat × mE) := [(0, .iconst 0, 1, [], 0), (1, .istore_n 1, 1, [], 0), (2, .iload_n 1, 1, [], 0), (3, .bipush 48, 2, [], 0), (5, .if_icmp .ge 59, 3, [64], 0), (8, .iload_n 1, 1, [], 0), (9, .bipush 8, 2, [], 0), (11, .idiv, 1, [], 0), (12, .istore_n 2, 1, [], 0), (13, .iload_n 1, 1, [], 0), (14, .bipush 8, 2, [], 0), (16, .irem, 1, [], 0), (17, .istore_n 3, 1, [], 0), (18, .aload_n 0, 1, [], 0), (19, .getfield 51, 3, [10, 20, 1026], 0), (22, .iload_n 1, 1, [], 0), (23, .iload_n 2, 1, [], 0), (24, .aload_n 0, 1, [], 0), (25, .getfield 13, 3, [10, 3, 1009], 0), (28, .iconst 0, 1, [], 0), (29, .iaload, 1, [], 0), (30, .if_icmp .ge 26, 3, [56], 0), (33, .iload_n 3, 1, [], 0), (34, .aload_n 0, 1, [], 0), (35, .getfield 26, 3, [10, 7, 1013], 0), (38, .iconst 0, 1, [], 0), (39, .iaload, 1, [], 0), (40, .if_icmp .ge 16, 3, [56], 0), (43, .aload_n 0, 1, [], 0), (44, .iload_n 2, 1, [], 0), (45, .iload_n 3, 1, [], 0), (46, .invokevirtual 171, 3, [147, 2, 10, 1205, 1207, 50], 0), (49, .ifCond .eq 7, 3, [56], 0), (52, .iconst 1, 1, [], 0), (53, .goto 4, 3, [57], 0), (56, .iconst 0, 1, [], 0), (57, .bastore, 1, [], 0), (58, .iinc 1 1, 3, [], 0), (61, .goto (-59), 3, [2], 0), (64, .return_, 1, [], 0)]
def P_X10_begin : List (Nat × mE) := [(0, .iconst 0, 1, [], 0), (1, .istore_n 1, 1, [], 0), (2, .iload_n 1, 1, [], 0), (3, .bipush 48, 2, [], 0), (5, .if_icmp .ge 16, 3, [21], 0), (8, .aload_n 0, 1, [], 0), (9, .getfield 54, 3, [10, 21, 1027], 0), (12, .iload_n 1, 1, [], 0), (13, .iconst 0, 1, [], 0), (14, .bastore, 1, [], 0), (15, .iinc 1 1, 3, [], 0), (18, .goto (-16), 3, [2], 0), (21, .iconst 0, 1, [], 0), (22, .istore_n 1, 1, [], 0), (23, .iload_n 1, 1, [], 0), (24, .bipush 6, 2, [], 0), (26, .if_icmp .ge 16, 3, [42], 0), (29, .aload_n 0, 1, [], 0), (30, .getfield 57, 3, [10, 22, 1028], 0), (33, .iload_n 1, 1, [], 0), (34, .iconst 0, 1, [], 0), (35, .iastore, 1, [], 0), (36, .iinc 1 1, 3, [], 0), (39, .goto (-16), 3, [23], 0), (42, .iconst 0, 1, [], 0), (43, .istore_n 1, 1, [], 0), (44, .iload_n 1, 1, [], 0), (45, .bipush 8, 2, [], 0), (47, .if_icmp .ge 16, 3, [63], 0), (50, .aload_n 0, 1, [], 0), (51, .getfield 60, 3, [10, 23, 1029], 0), (54, .iload_n 1, 1, [], 0), (55, .iconst 0, 1, [], 0), (56, .iastore, 1, [], 0), (57, .iinc 1 1, 3, [], 0), (60, .goto (-16), 3, [44], 0), (63, .return_, 1, [], 0)]
def P_X10_weight : List (Nat × mE) := [(0, .iload_n 2, 1, [], 0), (1, .ifCond .eq 9, 3, [10], 0), (4, .sipush 1000, 3, [], 0), (7, .goto 22, 3, [29], 0), (10, .aload_n 0, 1, [], 0), (11, .getfield 17, 3, [10, 4, 1010], 0), (14, .iload_n 1, 1, [], 0), (15, .bipush 8, 2, [], 0), (17, .idiv, 1, [], 0), (18, .iaload, 1, [], 0), (19, .aload_n 0, 1, [], 0), (20, .getfield 29, 3, [10, 8, 1014], 0), (23, .iload_n 1, 1, [], 0), (24, .bipush 8, 2, [], 0), (26, .irem, 1, [], 0), (27, .iaload, 1, [], 0), (28, .imul, 1, [], 0), (29, .ireturn, 1, [], 0)]
def P_X10_findWays_c0 : List (Nat × mE) := [(0, .iconst 0, 1, [], 0), (1, .istore_n 3, 1, [], 0), (2, .iload_n 3, 1, [], 0), (3, .bipush 6, 2, [], 0), (5, .if_icmp .ge 49, 3, [54], 0), (8, .aload_n 0, 1, [], 0), (9, .getfield 63, 3, [10, 24, 1030], 0), (12, .iload_n 3, 1, [], 0), (13, .iload_n 3, 1, [], 0), (14, .aload_n 0, 1, [], 0), (15, .getfield 13, 3, [10, 3, 1009], 0), (18, .iconst 0, 1, [], 0), (19, .iaload, 1, [], 0), (20, .if_icmp .ge 17, 3, [37], 0), (23, .aload_n 0, 1, [], 0), (24, .getfield 57, 3, [10, 22, 1028], 0), (27, .iload_n 3, 1, [], 0), (28, .iaload, 1, [], 0), (29, .iload_n 1, 1, [], 0), (30, .if_icmp .ge 7, 3, [37], 0), (33, .iconst 0, 1, [], 0), (34, .goto 5, 3, [39], 0), (37, .ldc 178, 2, [0, 1258], (-1000000)), (39, .iastore, 1, [], 0), (40, .aload_n 0, 1, [], 0), (41, .getfield 69, 3, [10, 26, 1032], 0), (44, .iload_n 3, 1, [], 0), (45, .bipush (-9), 2, [], 0), (47, .iastore, 1, [], 0), (48, .iinc 3 1, 3, [], 0), (51, .goto (-49), 3, [2], 0), (54, .iconst 0, 1, [], 0), (55, .istore_n 3, 1, [], 0), (56, .iload_n 3, 1, [], 0), (57, .bipush 8, 2, [], 0), (59, .if_icmp .ge 25, 3, [84], 0), (62, .aload_n 0, 1, [], 0), (63, .getfield 66, 3, [10, 25, 1031], 0), (66, .iload_n 3, 1, [], 0), (67, .ldc 178, 2, [0, 1258], (-1000000)), (69, .iastore, 1, [], 0), (70, .aload_n 0, 1, [], 0), (71, .getfield 72, 3, [10, 27, 1033], 0), (74, .iload_n 3, 1, [], 0), (75, .bipush (-9), 2, [], 0), (77, .iastore, 1, [], 0), (78, .iinc 3 1, 3, [], 0), (81, .goto (-25), 3, [56], 0), (84, .iconst 0, 1, [], 0), (85, .istore_n 3, 1, [], 0), (86, .iload_n 3, 1, [], 0), (87, .bipush 16, 2, [], 0), (89, .if_icmp .ge 194, 3, [283], 0), (92, .iconst 0, 1, [], 0), (93, .istore 4, 2, [], 0), (95, .iload 4, 2, [], 0), (97, .bipush 48, 2, [], 0), (99, .if_icmp .ge 178, 3, [277], 0), (102, .iload 4, 2, [], 0), (104, .bipush 8, 2, [], 0)]
def P_X10_findWays_c1 : List (Nat × mE) := [(106, .idiv, 1, [], 0), (107, .istore 5, 2, [], 0), (109, .iload 4, 2, [], 0), (111, .bipush 8, 2, [], 0), (113, .irem, 1, [], 0), (114, .istore 6, 2, [], 0), (116, .aload_n 0, 1, [], 0), (117, .iload 4, 2, [], 0), (119, .iload_n 2, 1, [], 0), (120, .invokevirtual 179, 3, [157, 2, 10, 1259, 1261, 58], 0), (123, .istore 7, 2, [], 0), (125, .aload_n 0, 1, [], 0), (126, .getfield 51, 3, [10, 20, 1026], 0), (129, .iload 4, 2, [], 0), (131, .baload, 1, [], 0), (132, .ifCond .eq 71, 3, [203], 0), (135, .aload_n 0, 1, [], 0), (136, .getfield 54, 3, [10, 21, 1027], 0), (139, .iload 4, 2, [], 0), (141, .baload, 1, [], 0), (142, .ifCond .ne 61, 3, [203], 0), (145, .aload_n 0, 1, [], 0), (146, .getfield 63, 3, [10, 24, 1030], 0), (149, .iload 5, 2, [], 0), (151, .iaload, 1, [], 0), (152, .ldc 178, 2, [0, 1258], (-1000000)), (154, .if_icmp .le 49, 3, [203], 0), (157, .aload_n 0, 1, [], 0), (158, .getfield 63, 3, [10, 24, 1030], 0), (161, .iload 5, 2, [], 0), (163, .iaload, 1, [], 0), (164, .iload 7, 2, [], 0), (166, .iadd, 1, [], 0), (167, .aload_n 0, 1, [], 0), (168, .getfield 66, 3, [10, 25, 1031], 0), (171, .iload 6, 2, [], 0), (173, .iaload, 1, [], 0), (174, .if_icmp .le 29, 3, [203], 0), (177, .aload_n 0, 1, [], 0), (178, .getfield 66, 3, [10, 25, 1031], 0), (181, .iload 6, 2, [], 0), (183, .aload_n 0, 1, [], 0), (184, .getfield 63, 3, [10, 24, 1030], 0), (187, .iload 5, 2, [], 0), (189, .iaload, 1, [], 0), (190, .iload 7, 2, [], 0), (192, .iadd, 1, [], 0), (193, .iastore, 1, [], 0), (194, .aload_n 0, 1, [], 0), (195, .getfield 72, 3, [10, 27, 1033], 0), (198, .iload 6, 2, [], 0), (200, .iload 5, 2, [], 0), (202, .iastore, 1, [], 0), (203, .aload_n 0, 1, [], 0), (204, .getfield 54, 3, [10, 21, 1027], 0), (207, .iload 4, 2, [], 0), (209, .baload, 1, [], 0), (210, .ifCond .eq 61, 3, [271], 0), (213, .aload_n 0, 1, [], 0), (214, .getfield 66, 3, [10, 25, 1031], 0)]
def P_X10_findWays_c2 : List (Nat × mE) := [(217, .iload 6, 2, [], 0), (219, .iaload, 1, [], 0), (220, .ldc 178, 2, [0, 1258], (-1000000)), (222, .if_icmp .le 49, 3, [271], 0), (225, .aload_n 0, 1, [], 0), (226, .getfield 66, 3, [10, 25, 1031], 0), (229, .iload 6, 2, [], 0), (231, .iaload, 1, [], 0), (232, .iload 7, 2, [], 0), (234, .isub, 1, [], 0), (235, .aload_n 0, 1, [], 0), (236, .getfield 63, 3, [10, 24, 1030], 0), (239, .iload 5, 2, [], 0), (241, .iaload, 1, [], 0), (242, .if_icmp .le 29, 3, [271], 0), (245, .aload_n 0, 1, [], 0), (246, .getfield 63, 3, [10, 24, 1030], 0), (249, .iload 5, 2, [], 0), (251, .aload_n 0, 1, [], 0), (252, .getfield 66, 3, [10, 25, 1031], 0), (255, .iload 6, 2, [], 0), (257, .iaload, 1, [], 0), (258, .iload 7, 2, [], 0), (260, .isub, 1, [], 0), (261, .iastore, 1, [], 0), (262, .aload_n 0, 1, [], 0), (263, .getfield 69, 3, [10, 26, 1032], 0), (266, .iload 5, 2, [], 0), (268, .iload 6, 2, [], 0), (270, .iastore, 1, [], 0), (271, .iinc 4 1, 3, [], 0), (274, .goto (-179), 3, [95], 0), (277, .iinc 3 1, 3, [], 0), (280, .goto (-194), 3, [86], 0), (283, .return_, 1, [], 0)]
def P_X10_findWays : List (Nat × mE) := P_X10_findWays_c0 ++ (P_X10_findWays_c1 ++ (P_X10_findWays_c2))
def P_X10_augment_c0 : List (Nat × mE) := [(0, .aload_n 0, 1, [], 0), (1, .iload_n 1, 1, [], 0), (2, .iload_n 2, 1, [], 0), (3, .invokevirtual 183, 3, [158, 2, 10, 1254, 1256, 57], 0), (6, .bipush (-9), 2, [], 0), (8, .istore_n 3, 1, [], 0), (9, .iconst 0, 1, [], 0), (10, .istore 4, 2, [], 0), (12, .iload 4, 2, [], 0), (14, .bipush 8, 2, [], 0), (16, .if_icmp .ge 55, 3, [71], 0), (19, .aload_n 0, 1, [], 0), (20, .getfield 60, 3, [10, 23, 1029], 0), (23, .iload 4, 2, [], 0), (25, .iaload, 1, [], 0), (26, .iload_n 1, 1, [], 0), (27, .if_icmp .ge 38, 3, [65], 0), (30, .aload_n 0, 1, [], 0), (31, .getfield 66, 3, [10, 25, 1031], 0), (34, .iload 4, 2, [], 0), (36, .iaload, 1, [], 0), (37, .ifCond .le 28, 3, [65], 0), (40, .iload_n 3, 1, [], 0), (41, .bipush (-9), 2, [], 0), (43, .if_icmp .eq 19, 3, [62], 0), (46, .aload_n 0, 1, [], 0), (47, .getfield 66, 3, [10, 25, 1031], 0), (50, .iload 4, 2, [], 0), (52, .iaload, 1, [], 0), (53, .aload_n 0, 1, [], 0), (54, .getfield 66, 3, [10, 25, 1031], 0), (57, .iload_n 3, 1, [], 0), (58, .iaload, 1, [], 0), (59, .if_icmp .le 6, 3, [65], 0), (62, .iload 4, 2, [], 0), (64, .istore_n 3, 1, [], 0), (65, .iinc 4 1, 3, [], 0), (68, .goto (-56), 3, [12], 0), (71, .iload_n 3, 1, [], 0), (72, .bipush (-9), 2, [], 0), (74, .if_icmp .ne 5, 3, [79], 0), (77, .iconst 0, 1, [], 0), (78, .ireturn, 1, [], 0), (79, .aload_n 0, 1, [], 0), (80, .getfield 66, 3, [10, 25, 1031], 0), (83, .iload_n 3, 1, [], 0), (84, .iaload, 1, [], 0), (85, .istore 4, 2, [], 0), (87, .aload_n 0, 1, [], 0), (88, .getfield 60, 3, [10, 23, 1029], 0), (91, .iload_n 3, 1, [], 0), (92, .dup2, 1, [], 0), (93, .iaload, 1, [], 0), (94, .iconst 1, 1, [], 0), (95, .iadd, 1, [], 0), (96, .iastore, 1, [], 0), (97, .iload_n 3, 1, [], 0), (98, .istore 5, 2, [], 0), (100, .aload_n 0, 1, [], 0), (101, .getfield 72, 3, [10, 27, 1033], 0)]
def P_X10_augment_c1 : List (Nat × mE) := [(104, .iload 5, 2, [], 0), (106, .iaload, 1, [], 0), (107, .istore 6, 2, [], 0), (109, .aload_n 0, 1, [], 0), (110, .getfield 54, 3, [10, 21, 1027], 0), (113, .bipush 8, 2, [], 0), (115, .iload 6, 2, [], 0), (117, .imul, 1, [], 0), (118, .iload 5, 2, [], 0), (120, .iadd, 1, [], 0), (121, .iconst 1, 1, [], 0), (122, .bastore, 1, [], 0), (123, .aload_n 0, 1, [], 0), (124, .getfield 69, 3, [10, 26, 1032], 0), (127, .iload 6, 2, [], 0), (129, .iaload, 1, [], 0), (130, .bipush (-9), 2, [], 0), (132, .if_icmp .eq 52, 3, [184], 0), (135, .aload_n 0, 1, [], 0), (136, .getfield 69, 3, [10, 26, 1032], 0), (139, .iload 6, 2, [], 0), (141, .iaload, 1, [], 0), (142, .istore 5, 2, [], 0), (144, .aload_n 0, 1, [], 0), (145, .getfield 54, 3, [10, 21, 1027], 0), (148, .bipush 8, 2, [], 0), (150, .iload 6, 2, [], 0), (152, .imul, 1, [], 0), (153, .iload 5, 2, [], 0), (155, .iadd, 1, [], 0), (156, .iconst 0, 1, [], 0), (157, .bastore, 1, [], 0), (158, .aload_n 0, 1, [], 0), (159, .getfield 72, 3, [10, 27, 1033], 0), (162, .iload 5, 2, [], 0), (164, .iaload, 1, [], 0), (165, .istore 6, 2, [], 0), (167, .aload_n 0, 1, [], 0), (168, .getfield 54, 3, [10, 21, 1027], 0), (171, .bipush 8, 2, [], 0), (173, .iload 6, 2, [], 0), (175, .imul, 1, [], 0), (176, .iload 5, 2, [], 0), (178, .iadd, 1, [], 0), (179, .iconst 1, 1, [], 0), (180, .bastore, 1, [], 0), (181, .goto (-58), 3, [123], 0), (184, .aload_n 0, 1, [], 0), (185, .getfield 57, 3, [10, 22, 1028], 0), (188, .iload 6, 2, [], 0), (190, .dup2, 1, [], 0), (191, .iaload, 1, [], 0), (192, .iconst 1, 1, [], 0), (193, .iadd, 1, [], 0), (194, .iastore, 1, [], 0), (195, .iload 4, 2, [], 0), (197, .ireturn, 1, [], 0)]
def P_X10_augment : List (Nat × mE) := P_X10_augment_c0 ++ (P_X10_augment_c1)
def P_X10_isLong : List (Nat × mE) := [(0, .aload_n 0, 1, [], 0), (1, .invokevirtual 187, 3, [156, 0, 10, 1246, 1248, 55], 0), (4, .iconst 0, 1, [], 0), (5, .istore_n 2, 1, [], 0), (6, .aload_n 0, 1, [], 0), (7, .iload_n 1, 1, [], 0), (8, .iconst 1, 1, [], 0), (9, .invokevirtual 190, 3, [159, 2, 10, 1250, 1252, 56], 0), (12, .ifCond .le 9, 3, [21], 0), (15, .iinc 2 1, 3, [], 0), (18, .goto (-12), 3, [6], 0), (21, .iload_n 2, 1, [], 0), (22, .iload_n 1, 1, [], 0), (23, .aload_n 0, 1, [], 0), (24, .getfield 13, 3, [10, 3, 1009], 0), (27, .iconst 0, 1, [], 0), (28, .iaload, 1, [], 0), (29, .imul, 1, [], 0), (30, .if_icmp .ne 7, 3, [37], 0), (33, .iconst 1, 1, [], 0), (34, .goto 4, 3, [38], 0), (37, .iconst 0, 1, [], 0), (38, .ireturn, 1, [], 0)]
def P_X10_longestBy : List (Nat × mE) := [(0, .iconst 0, 1, [], 0), (1, .istore_n 1, 1, [], 0), (2, .aload_n 0, 1, [], 0), (3, .getfield 13, 3, [10, 3, 1009], 0), (6, .iconst 0, 1, [], 0), (7, .iaload, 1, [], 0), (8, .ifCond .le 25, 3, [33], 0), (11, .iload_n 1, 1, [], 0), (12, .bipush 8, 2, [], 0), (14, .if_icmp .ge 19, 3, [33], 0), (17, .aload_n 0, 1, [], 0), (18, .iload_n 1, 1, [], 0), (19, .iconst 1, 1, [], 0), (20, .iadd, 1, [], 0), (21, .invokevirtual 193, 3, [160, 1, 10, 1242, 1244, 54], 0), (24, .ifCond .eq 9, 3, [33], 0), (27, .iinc 1 1, 3, [], 0), (30, .goto (-28), 3, [2], 0), (33, .iload_n 1, 1, [], 0), (34, .ireturn, 1, [], 0)]
def P_X10_longest : List (Nat × mE) := [(0, .aload_n 0, 1, [], 0), (1, .invokevirtual 196, 3, [155, 0, 10, 1234, 1236, 52], 0), (4, .aload_n 0, 1, [], 0), (5, .invokevirtual 199, 3, [161, 0, 10, 1238, 1240, 53], 0), (8, .ireturn, 1, [], 0)]
def P_X10_isUsed : List (Nat × mE) := [(0, .iconst 0, 1, [], 0), (1, .istore_n 2, 1, [], 0), (2, .iconst 0, 1, [], 0), (3, .istore_n 3, 1, [], 0), (4, .iload_n 3, 1, [], 0), (5, .iload_n 1, 1, [], 0), (6, .if_icmp .ge 34, 3, [40], 0), (9, .iload_n 2, 1, [], 0), (10, .ifCond .ne 18, 3, [28], 0), (13, .aload_n 0, 1, [], 0), (14, .getfield 75, 3, [10, 28, 1034], 0), (17, .iload_n 3, 1, [], 0), (18, .iaload, 1, [], 0), (19, .aload_n 0, 1, [], 0), (20, .getfield 75, 3, [10, 28, 1034], 0), (23, .iload_n 1, 1, [], 0), (24, .iaload, 1, [], 0), (25, .if_icmp .ne 7, 3, [32], 0), (28, .iconst 1, 1, [], 0), (29, .goto 4, 3, [33], 0), (32, .iconst 0, 1, [], 0), (33, .istore_n 2, 1, [], 0), (34, .iinc 3 1, 3, [], 0), (37, .goto (-33), 3, [4], 0), (40, .iload_n 2, 1, [], 0), (41, .ireturn, 1, [], 0)]
def P_X10_leaves : List (Nat × mE) := [(0, .iconst 0, 1, [], 0), (1, .istore_n 2, 1, [], 0), (2, .iload_n 2, 1, [], 0), (3, .aload_n 0, 1, [], 0), (4, .getfield 13, 3, [10, 3, 1009], 0), (7, .iconst 0, 1, [], 0), (8, .iaload, 1, [], 0), (9, .if_icmp .ge 26, 3, [35], 0), (12, .aload_n 0, 1, [], 0), (13, .getfield 51, 3, [10, 20, 1026], 0), (16, .bipush 8, 2, [], 0), (18, .iload_n 2, 1, [], 0), (19, .imul, 1, [], 0), (20, .aload_n 0, 1, [], 0), (21, .getfield 75, 3, [10, 28, 1034], 0), (24, .iload_n 2, 1, [], 0), (25, .iaload, 1, [], 0), (26, .iadd, 1, [], 0), (27, .iconst 0, 1, [], 0), (28, .bastore, 1, [], 0), (29, .iinc 2 1, 3, [], 0), (32, .goto (-30), 3, [2], 0), (35, .iload_n 1, 1, [], 0), (36, .ifCond .eq 11, 3, [47], 0), (39, .aload_n 0, 1, [], 0), (40, .iload_n 1, 1, [], 0), (41, .invokevirtual 193, 3, [160, 1, 10, 1242, 1244, 54], 0), (44, .ifCond .eq 7, 3, [51], 0), (47, .iconst 1, 1, [], 0), (48, .goto 4, 3, [52], 0), (51, .iconst 0, 1, [], 0), (52, .istore_n 2, 1, [], 0), (53, .iconst 0, 1, [], 0), (54, .istore_n 3, 1, [], 0), (55, .iload_n 3, 1, [], 0), (56, .aload_n 0, 1, [], 0), (57, .getfield 13, 3, [10, 3, 1009], 0), (60, .iconst 0, 1, [], 0), (61, .iaload, 1, [], 0), (62, .if_icmp .ge 26, 3, [88], 0), (65, .aload_n 0, 1, [], 0), (66, .getfield 51, 3, [10, 20, 1026], 0), (69, .bipush 8, 2, [], 0), (71, .iload_n 3, 1, [], 0), (72, .imul, 1, [], 0), (73, .aload_n 0, 1, [], 0), (74, .getfield 75, 3, [10, 28, 1034], 0), (77, .iload_n 3, 1, [], 0), (78, .iaload, 1, [], 0), (79, .iadd, 1, [], 0), (80, .iconst 1, 1, [], 0), (81, .bastore, 1, [], 0), (82, .iinc 3 1, 3, [], 0), (85, .goto (-30), 3, [55], 0), (88, .iload_n 2, 1, [], 0), (89, .ireturn, 1, [], 0)]
def P_X10_begins_c0 : List (Nat × mE) := [(0, .aload_n 0, 1, [], 0), (1, .iload_n 1, 1, [], 0), (2, .invokevirtual 164, 3, [141, 1, 10, 1185, 1187, 48], 0), (5, .ifCond .ne 5, 3, [10], 0), (8, .iconst (-1), 1, [], 0), (9, .ireturn, 1, [], 0), (10, .aload_n 0, 1, [], 0), (11, .invokevirtual 196, 3, [155, 0, 10, 1234, 1236, 52], 0), (14, .aload_n 0, 1, [], 0), (15, .invokevirtual 199, 3, [161, 0, 10, 1238, 1240, 53], 0), (18, .istore_n 2, 1, [], 0), (19, .iload_n 2, 1, [], 0), (20, .ifCond .ne 6, 3, [26], 0), (23, .bipush (-9), 2, [], 0), (25, .ireturn, 1, [], 0), (26, .iconst 0, 1, [], 0), (27, .istore_n 3, 1, [], 0), (28, .aload_n 0, 1, [], 0), (29, .getfield 75, 3, [10, 28, 1034], 0), (32, .iconst 0, 1, [], 0), (33, .iconst (-1), 1, [], 0), (34, .iastore, 1, [], 0), (35, .aload_n 0, 1, [], 0), (36, .getfield 75, 3, [10, 28, 1034], 0), (39, .iload_n 3, 1, [], 0), (40, .dup2, 1, [], 0), (41, .iaload, 1, [], 0), (42, .iconst 1, 1, [], 0), (43, .iadd, 1, [], 0), (44, .iastore, 1, [], 0), (45, .aload_n 0, 1, [], 0), (46, .getfield 75, 3, [10, 28, 1034], 0), (49, .iload_n 3, 1, [], 0), (50, .iaload, 1, [], 0), (51, .aload_n 0, 1, [], 0), (52, .getfield 26, 3, [10, 7, 1013], 0), (55, .iconst 0, 1, [], 0), (56, .iaload, 1, [], 0), (57, .if_icmp .ge 43, 3, [100], 0), (60, .aload_n 0, 1, [], 0), (61, .getfield 51, 3, [10, 20, 1026], 0), (64, .bipush 8, 2, [], 0), (66, .iload_n 3, 1, [], 0), (67, .imul, 1, [], 0), (68, .aload_n 0, 1, [], 0), (69, .getfield 75, 3, [10, 28, 1034], 0), (72, .iload_n 3, 1, [], 0), (73, .iaload, 1, [], 0), (74, .iadd, 1, [], 0), (75, .baload, 1, [], 0), (76, .ifCond .eq 11, 3, [87], 0), (79, .aload_n 0, 1, [], 0), (80, .iload_n 3, 1, [], 0), (81, .invokevirtual 202, 3, [163, 1, 10, 1267, 1269, 59], 0), (84, .ifCond .eq 16, 3, [100], 0), (87, .aload_n 0, 1, [], 0), (88, .getfield 75, 3, [10, 28, 1034], 0), (91, .iload_n 3, 1, [], 0), (92, .dup2, 1, [], 0), (93, .iaload, 1, [], 0)]
def P_X10_begins_c1 : List (Nat × mE) := [(94, .iconst 1, 1, [], 0), (95, .iadd, 1, [], 0), (96, .iastore, 1, [], 0), (97, .goto (-52), 3, [45], 0), (100, .aload_n 0, 1, [], 0), (101, .getfield 75, 3, [10, 28, 1034], 0), (104, .iload_n 3, 1, [], 0), (105, .iaload, 1, [], 0), (106, .aload_n 0, 1, [], 0), (107, .getfield 26, 3, [10, 7, 1013], 0), (110, .iconst 0, 1, [], 0), (111, .iaload, 1, [], 0), (112, .if_icmp .lt 9, 3, [121], 0), (115, .iinc 3 (-1), 3, [], 0), (118, .goto (-83), 3, [35], 0), (121, .iload_n 3, 1, [], 0), (122, .aload_n 0, 1, [], 0), (123, .getfield 13, 3, [10, 3, 1009], 0), (126, .iconst 0, 1, [], 0), (127, .iaload, 1, [], 0), (128, .iconst 1, 1, [], 0), (129, .isub, 1, [], 0), (130, .if_icmp .ge 16, 3, [146], 0), (133, .iinc 3 1, 3, [], 0), (136, .aload_n 0, 1, [], 0), (137, .getfield 75, 3, [10, 28, 1034], 0), (140, .iload_n 3, 1, [], 0), (141, .iconst (-1), 1, [], 0), (142, .iastore, 1, [], 0), (143, .goto (-108), 3, [35], 0), (146, .aload_n 0, 1, [], 0), (147, .iload_n 2, 1, [], 0), (148, .iconst 1, 1, [], 0), (149, .isub, 1, [], 0), (150, .invokevirtual 205, 3, [164, 1, 10, 1271, 1273, 60], 0), (153, .ifCond .eq (-118), 3, [35], 0), (156, .aload_n 0, 1, [], 0), (157, .getfield 75, 3, [10, 28, 1034], 0), (160, .iload_n 1, 1, [], 0), (161, .iaload, 1, [], 0), (162, .ireturn, 1, [], 0)]
def P_X10_begins : List (Nat × mE) := P_X10_begins_c0 ++ (P_X10_begins_c1)
def P_X10_most : List (Nat × mE) := [(0, .iload_n 1, 1, [], 0), (1, .iconst 1, 1, [], 0), (2, .bipush 6, 2, [], 0), (4, .invokestatic 108, 3, [130, 3, 0, 1138, 1139], 0), (7, .ifCond .ne 5, 3, [12], 0), (10, .iconst (-1), 1, [], 0), (11, .ireturn, 1, [], 0), (12, .aload_n 0, 1, [], 0), (13, .invokevirtual 196, 3, [155, 0, 10, 1234, 1236, 52], 0), (16, .aload_n 0, 1, [], 0), (17, .invokevirtual 187, 3, [156, 0, 10, 1246, 1248, 55], 0), (20, .iconst 0, 1, [], 0), (21, .istore_n 2, 1, [], 0), (22, .aload_n 0, 1, [], 0), (23, .iload_n 1, 1, [], 0), (24, .iconst 0, 1, [], 0), (25, .invokevirtual 190, 3, [159, 2, 10, 1250, 1252, 56], 0), (28, .istore_n 3, 1, [], 0), (29, .iload_n 3, 1, [], 0), (30, .ifCond .le 17, 3, [47], 0), (33, .iload_n 2, 1, [], 0), (34, .iload_n 3, 1, [], 0), (35, .iadd, 1, [], 0), (36, .istore_n 2, 1, [], 0), (37, .aload_n 0, 1, [], 0), (38, .iload_n 1, 1, [], 0), (39, .iconst 0, 1, [], 0), (40, .invokevirtual 190, 3, [159, 2, 10, 1250, 1252, 56], 0), (43, .istore_n 3, 1, [], 0), (44, .goto (-15), 3, [29], 0), (47, .iload_n 2, 1, [], 0), (48, .ireturn, 1, [], 0)]
def P_X10_dugBy_c0 : List (Nat × mE) := [(0, .iconst 0, 1, [], 0), (1, .istore_n 3, 1, [], 0), (2, .iconst 0, 1, [], 0), (3, .istore 4, 2, [], 0), (5, .iconst 0, 1, [], 0), (6, .istore 5, 2, [], 0), (8, .iload 5, 2, [], 0), (10, .aload_n 0, 1, [], 0), (11, .getfield 13, 3, [10, 3, 1009], 0), (14, .iconst 0, 1, [], 0), (15, .iaload, 1, [], 0), (16, .if_icmp .ge 75, 3, [91], 0), (19, .iload_n 1, 1, [], 0), (20, .iload 5, 2, [], 0), (22, .ishr, 1, [], 0), (23, .iconst 1, 1, [], 0), (24, .iand, 1, [], 0), (25, .iconst 1, 1, [], 0), (26, .if_icmp .ne 7, 3, [33], 0), (29, .iconst 1, 1, [], 0), (30, .goto 4, 3, [34], 0), (33, .iconst 0, 1, [], 0), (34, .istore 6, 2, [], 0), (36, .iload 6, 2, [], 0), (38, .ifCond .eq 24, 3, [62], 0), (41, .aload_n 0, 1, [], 0), (42, .getfield 20, 3, [10, 5, 1011], 0), (45, .iload 5, 2, [], 0), (47, .iaload, 1, [], 0), (48, .iload_n 3, 1, [], 0), (49, .if_icmp .le 13, 3, [62], 0), (52, .aload_n 0, 1, [], 0), (53, .getfield 20, 3, [10, 5, 1011], 0), (56, .iload 5, 2, [], 0), (58, .iaload, 1, [], 0), (59, .goto 4, 3, [63], 0), (62, .iload_n 3, 1, [], 0), (63, .istore_n 3, 1, [], 0), (64, .iload 4, 2, [], 0), (66, .iload 6, 2, [], 0), (68, .ifCond .eq 13, 3, [81], 0), (71, .aload_n 0, 1, [], 0), (72, .getfield 17, 3, [10, 4, 1010], 0), (75, .iload 5, 2, [], 0), (77, .iaload, 1, [], 0), (78, .goto 4, 3, [82], 0), (81, .iconst 0, 1, [], 0), (82, .iadd, 1, [], 0), (83, .istore 4, 2, [], 0), (85, .iinc 5 1, 3, [], 0), (88, .goto (-80), 3, [8], 0), (91, .iload_n 3, 1, [], 0), (92, .ifCond .ne 7, 3, [99], 0), (95, .iconst 0, 1, [], 0), (96, .goto 9, 3, [105], 0), (99, .iload_n 2, 1, [], 0), (100, .iload_n 3, 1, [], 0), (101, .idiv, 1, [], 0), (102, .iload 4, 2, [], 0), (104, .imul, 1, [], 0)]
def P_X10_dugBy_c1 : List (Nat × mE) := [(105, .ireturn, 1, [], 0)]
def P_X10_dugBy : List (Nat × mE) := P_X10_dugBy_c0 ++ (P_X10_dugBy_c1)
def P_X10_part_c0 : List (Nat × mE) := [(0, .iload_n 1, 1, [], 0), (1, .istore_n 3, 1, [], 0), (2, .iconst 0, 1, [], 0), (3, .istore 4, 2, [], 0), (5, .iconst 0, 1, [], 0), (6, .istore 5, 2, [], 0), (8, .iload 5, 2, [], 0), (10, .iconst 3, 1, [], 0), (11, .if_icmp .ge 17, 3, [28], 0), (14, .aload_n 0, 1, [], 0), (15, .getfield 78, 3, [10, 29, 1035], 0), (18, .iload 5, 2, [], 0), (20, .iconst 0, 1, [], 0), (21, .iastore, 1, [], 0), (22, .iinc 5 1, 3, [], 0), (25, .goto (-17), 3, [8], 0), (28, .iconst 0, 1, [], 0), (29, .istore 5, 2, [], 0), (31, .iload 5, 2, [], 0), (33, .aload_n 0, 1, [], 0), (34, .getfield 13, 3, [10, 3, 1009], 0), (37, .iconst 0, 1, [], 0), (38, .iaload, 1, [], 0), (39, .if_icmp .ge 65, 3, [104], 0), (42, .iload_n 3, 1, [], 0), (43, .iconst 3, 1, [], 0), (44, .irem, 1, [], 0), (45, .istore 6, 2, [], 0), (47, .iload_n 3, 1, [], 0), (48, .iconst 3, 1, [], 0), (49, .idiv, 1, [], 0), (50, .istore_n 3, 1, [], 0), (51, .iload 6, 2, [], 0), (53, .iload 4, 2, [], 0), (55, .if_icmp .gt 9, 3, [64], 0), (58, .iload 6, 2, [], 0), (60, .iload_n 2, 1, [], 0), (61, .if_icmp .lt 5, 3, [66], 0), (64, .iconst 0, 1, [], 0), (65, .ireturn, 1, [], 0), (66, .aload_n 0, 1, [], 0), (67, .getfield 78, 3, [10, 29, 1035], 0), (70, .iload 6, 2, [], 0), (72, .dup2, 1, [], 0), (73, .iaload, 1, [], 0), (74, .iconst 1, 1, [], 0), (75, .iload 5, 2, [], 0), (77, .ishl, 1, [], 0), (78, .ior, 1, [], 0), (79, .iastore, 1, [], 0), (80, .iload 6, 2, [], 0), (82, .iload 4, 2, [], 0), (84, .if_icmp .ne 10, 3, [94], 0), (87, .iload 4, 2, [], 0), (89, .iconst 1, 1, [], 0), (90, .iadd, 1, [], 0), (91, .goto 5, 3, [96], 0), (94, .iload 4, 2, [], 0), (96, .istore 4, 2, [], 0), (98, .iinc 5 1, 3, [], 0)]
def P_X10_part_c1 : List (Nat × mE) := [(101, .goto (-70), 3, [31], 0), (104, .iconst 1, 1, [], 0), (105, .ireturn, 1, [], 0)]
def P_X10_part : List (Nat × mE) := P_X10_part_c0 ++ (P_X10_part_c1)
def P_X10_isAhead : List (Nat × mE) := [(0, .iconst 0, 1, [], 0), (1, .istore_n 1, 1, [], 0), (2, .iload_n 1, 1, [], 0), (3, .iconst 3, 1, [], 0), (4, .if_icmp .ge 45, 3, [49], 0), (7, .aload_n 0, 1, [], 0), (8, .getfield 78, 3, [10, 29, 1035], 0), (11, .iload_n 1, 1, [], 0), (12, .iaload, 1, [], 0), (13, .aload_n 0, 1, [], 0), (14, .getfield 81, 3, [10, 30, 1036], 0), (17, .iload_n 1, 1, [], 0), (18, .iaload, 1, [], 0), (19, .if_icmp .eq 24, 3, [43], 0), (22, .aload_n 0, 1, [], 0), (23, .getfield 78, 3, [10, 29, 1035], 0), (26, .iload_n 1, 1, [], 0), (27, .iaload, 1, [], 0), (28, .aload_n 0, 1, [], 0), (29, .getfield 81, 3, [10, 30, 1036], 0), (32, .iload_n 1, 1, [], 0), (33, .iaload, 1, [], 0), (34, .if_icmp .ge 7, 3, [41], 0), (37, .iconst 1, 1, [], 0), (38, .goto 4, 3, [42], 0), (41, .iconst 0, 1, [], 0), (42, .ireturn, 1, [], 0), (43, .iinc 1 1, 3, [], 0), (46, .goto (-44), 3, [2], 0), (49, .iconst 0, 1, [], 0), (50, .ireturn, 1, [], 0)]
def P_X10_rings_c0 : List (Nat × mE) := [(0, .iload_n 1, 1, [], 0), (1, .iconst 1, 1, [], 0), (2, .iconst 3, 1, [], 0), (3, .invokestatic 108, 3, [130, 3, 0, 1138, 1139], 0), (6, .ifCond .eq 28, 3, [34], 0), (9, .iload_n 2, 1, [], 0), (10, .iconst 1, 1, [], 0), (11, .sipush 999, 3, [], 0), (14, .invokestatic 108, 3, [130, 3, 0, 1138, 1139], 0), (17, .ifCond .eq 17, 3, [34], 0), (20, .iload_n 3, 1, [], 0), (21, .iconst 0, 1, [], 0), (22, .aload_n 0, 1, [], 0), (23, .getfield 13, 3, [10, 3, 1009], 0), (26, .iconst 0, 1, [], 0), (27, .iaload, 1, [], 0), (28, .invokestatic 108, 3, [130, 3, 0, 1138, 1139], 0), (31, .ifCond .ne 5, 3, [36], 0), (34, .iconst (-1), 1, [], 0), (35, .ireturn, 1, [], 0), (36, .iconst (-1), 1, [], 0), (37, .istore 4, 2, [], 0), (39, .iconst 0, 1, [], 0), (40, .istore 5, 2, [], 0), (42, .iload 5, 2, [], 0), (44, .sipush 729, 3, [], 0), (47, .if_icmp .ge 110, 3, [157], 0), (50, .aload_n 0, 1, [], 0), (51, .iload 5, 2, [], 0), (53, .iload_n 1, 1, [], 0), (54, .invokevirtual 208, 3, [168, 2, 10, 1283, 1285, 61], 0), (57, .ifCond .eq 94, 3, [151], 0), (60, .aload_n 0, 1, [], 0), (61, .aload_n 0, 1, [], 0), (62, .getfield 78, 3, [10, 29, 1035], 0), (65, .iconst 0, 1, [], 0), (66, .iaload, 1, [], 0), (67, .iload_n 2, 1, [], 0), (68, .invokevirtual 211, 3, [167, 2, 10, 1287, 1289, 62], 0), (71, .aload_n 0, 1, [], 0), (72, .aload_n 0, 1, [], 0), (73, .getfield 78, 3, [10, 29, 1035], 0), (76, .iconst 1, 1, [], 0), (77, .iaload, 1, [], 0), (78, .iload_n 2, 1, [], 0), (79, .invokevirtual 211, 3, [167, 2, 10, 1287, 1289, 62], 0), (82, .iadd, 1, [], 0), (83, .aload_n 0, 1, [], 0), (84, .aload_n 0, 1, [], 0), (85, .getfield 78, 3, [10, 29, 1035], 0), (88, .iconst 2, 1, [], 0), (89, .iaload, 1, [], 0), (90, .iload_n 2, 1, [], 0), (91, .invokevirtual 211, 3, [167, 2, 10, 1287, 1289, 62], 0), (94, .iadd, 1, [], 0), (95, .istore 6, 2, [], 0), (97, .iload 6, 2, [], 0), (99, .iload 4, 2, [], 0), (101, .if_icmp .gt 17, 3, [118], 0), (104, .iload 6, 2, [], 0)]
def P_X10_rings_c1 : List (Nat × mE) := [(106, .iload 4, 2, [], 0), (108, .if_icmp .ne 43, 3, [151], 0), (111, .aload_n 0, 1, [], 0), (112, .invokevirtual 214, 3, [169, 0, 10, 1291, 1293, 63], 0), (115, .ifCond .eq 36, 3, [151], 0), (118, .iload 6, 2, [], 0), (120, .istore 4, 2, [], 0), (122, .iconst 0, 1, [], 0), (123, .istore 7, 2, [], 0), (125, .iload 7, 2, [], 0), (127, .iconst 3, 1, [], 0), (128, .if_icmp .ge 23, 3, [151], 0), (131, .aload_n 0, 1, [], 0), (132, .getfield 81, 3, [10, 30, 1036], 0), (135, .iload 7, 2, [], 0), (137, .aload_n 0, 1, [], 0), (138, .getfield 78, 3, [10, 29, 1035], 0), (141, .iload 7, 2, [], 0), (143, .iaload, 1, [], 0), (144, .iastore, 1, [], 0), (145, .iinc 7 1, 3, [], 0), (148, .goto (-23), 3, [125], 0), (151, .iinc 5 1, 3, [], 0), (154, .goto (-112), 3, [42], 0), (157, .iload_n 3, 1, [], 0), (158, .ifCond .ne 6, 3, [164], 0), (161, .iload 4, 2, [], 0), (163, .ireturn, 1, [], 0), (164, .iconst 0, 1, [], 0), (165, .istore 5, 2, [], 0), (167, .iconst 0, 1, [], 0), (168, .istore 6, 2, [], 0), (170, .iload 6, 2, [], 0), (172, .iconst 3, 1, [], 0), (173, .if_icmp .ge 40, 3, [213], 0), (176, .aload_n 0, 1, [], 0), (177, .getfield 81, 3, [10, 30, 1036], 0), (180, .iload 6, 2, [], 0), (182, .iaload, 1, [], 0), (183, .iload_n 3, 1, [], 0), (184, .iconst 1, 1, [], 0), (185, .isub, 1, [], 0), (186, .ishr, 1, [], 0), (187, .iconst 1, 1, [], 0), (188, .iand, 1, [], 0), (189, .iconst 1, 1, [], 0), (190, .if_icmp .ne 13, 3, [203], 0), (193, .aload_n 0, 1, [], 0), (194, .getfield 81, 3, [10, 30, 1036], 0), (197, .iload 6, 2, [], 0), (199, .iaload, 1, [], 0), (200, .goto 5, 3, [205], 0), (203, .iload 5, 2, [], 0), (205, .istore 5, 2, [], 0), (207, .iinc 6 1, 3, [], 0), (210, .goto (-40), 3, [170], 0), (213, .iload 5, 2, [], 0), (215, .ireturn, 1, [], 0)]
def P_X10_rings : List (Nat × mE) := P_X10_rings_c0 ++ (P_X10_rings_c1)
def P_X10_stroke_c0 : List (Nat × mE) := [(0, .iload_n 1, 1, [], 0), (1, .istore_n 3, 1, [], 0), (2, .iconst 0, 1, [], 0), (3, .istore 4, 2, [], 0), (5, .iload 4, 2, [], 0), (7, .aload_n 0, 1, [], 0), (8, .getfield 35, 3, [10, 10, 1016], 0), (11, .iconst 0, 1, [], 0), (12, .iaload, 1, [], 0), (13, .if_icmp .ge 90, 3, [103], 0), (16, .iload_n 2, 1, [], 0), (17, .ifCond .le 8, 3, [25], 0), (20, .iload 4, 2, [], 0), (22, .goto 14, 3, [36], 0), (25, .aload_n 0, 1, [], 0), (26, .getfield 35, 3, [10, 10, 1016], 0), (29, .iconst 0, 1, [], 0), (30, .iaload, 1, [], 0), (31, .iconst 1, 1, [], 0), (32, .isub, 1, [], 0), (33, .iload 4, 2, [], 0), (35, .isub, 1, [], 0), (36, .istore 5, 2, [], 0), (38, .aload_n 0, 1, [], 0), (39, .getfield 84, 3, [10, 31, 1037], 0), (42, .iload 5, 2, [], 0), (44, .iaload, 1, [], 0), (45, .iload_n 3, 1, [], 0), (46, .if_icmp .ge 13, 3, [59], 0), (49, .aload_n 0, 1, [], 0), (50, .getfield 84, 3, [10, 31, 1037], 0), (53, .iload 5, 2, [], 0), (55, .iaload, 1, [], 0), (56, .goto 4, 3, [60], 0), (59, .iload_n 3, 1, [], 0), (60, .istore 6, 2, [], 0), (62, .aload_n 0, 1, [], 0), (63, .getfield 84, 3, [10, 31, 1037], 0), (66, .iload 5, 2, [], 0), (68, .dup2, 1, [], 0), (69, .iaload, 1, [], 0), (70, .iload 6, 2, [], 0), (72, .isub, 1, [], 0), (73, .iastore, 1, [], 0), (74, .iload_n 3, 1, [], 0), (75, .iload 6, 2, [], 0), (77, .isub, 1, [], 0), (78, .istore_n 3, 1, [], 0), (79, .aload_n 0, 1, [], 0), (80, .iload 6, 2, [], 0), (82, .ifCond .le 8, 3, [90], 0), (85, .iload 5, 2, [], 0), (87, .goto 7, 3, [94], 0), (90, .aload_n 0, 1, [], 0), (91, .getfield 218, 3, [10, 32, 1038], 0), (94, .putfield 218, 3, [10, 32, 1038], 0), (97, .iinc 4 1, 3, [], 0), (100, .goto (-95), 3, [5], 0), (103, .iload_n 1, 1, [], 0), (104, .iload_n 3, 1, [], 0)]
def P_X10_stroke_c1 : List (Nat × mE) := [(105, .isub, 1, [], 0), (106, .ireturn, 1, [], 0)]
def P_X10_stroke : List (Nat × mE) := P_X10_stroke_c0 ++ (P_X10_stroke_c1)
def P_X10_allLeft : List (Nat × mE) := [(0, .iconst 0, 1, [], 0), (1, .istore_n 1, 1, [], 0), (2, .iconst 0, 1, [], 0), (3, .istore_n 2, 1, [], 0), (4, .iload_n 2, 1, [], 0), (5, .aload_n 0, 1, [], 0), (6, .getfield 35, 3, [10, 10, 1016], 0), (9, .iconst 0, 1, [], 0), (10, .iaload, 1, [], 0), (11, .if_icmp .ge 18, 3, [29], 0), (14, .iload_n 1, 1, [], 0), (15, .aload_n 0, 1, [], 0), (16, .getfield 84, 3, [10, 31, 1037], 0), (19, .iload_n 2, 1, [], 0), (20, .iaload, 1, [], 0), (21, .iadd, 1, [], 0), (22, .istore_n 1, 1, [], 0), (23, .iinc 2 1, 3, [], 0), (26, .goto (-22), 3, [4], 0), (29, .iload_n 1, 1, [], 0), (30, .ireturn, 1, [], 0)]
def P_X10_meeting_c0 : List (Nat × mE) := [(0, .iload_n 1, 1, [], 0), (1, .iconst 1, 1, [], 0), (2, .bipush 99, 2, [], 0), (4, .invokestatic 108, 3, [130, 3, 0, 1138, 1139], 0), (7, .ifCond .eq 44, 3, [51], 0), (10, .iload_n 2, 1, [], 0), (11, .iconst 1, 1, [], 0), (12, .bipush 99, 2, [], 0), (14, .invokestatic 108, 3, [130, 3, 0, 1138, 1139], 0), (17, .ifCond .eq 34, 3, [51], 0), (20, .iload_n 3, 1, [], 0), (21, .iconst 1, 1, [], 0), (22, .bipush 99, 2, [], 0), (24, .invokestatic 108, 3, [130, 3, 0, 1138, 1139], 0), (27, .ifCond .eq 24, 3, [51], 0), (30, .iload 4, 2, [], 0), (32, .iconst 1, 1, [], 0), (33, .bipush 99, 2, [], 0), (35, .invokestatic 108, 3, [130, 3, 0, 1138, 1139], 0), (38, .ifCond .eq 13, 3, [51], 0), (41, .iload 5, 2, [], 0), (43, .iconst 0, 1, [], 0), (44, .iconst 2, 1, [], 0), (45, .invokestatic 108, 3, [130, 3, 0, 1138, 1139], 0), (48, .ifCond .ne 5, 3, [53], 0), (51, .iconst (-1), 1, [], 0), (52, .ireturn, 1, [], 0), (53, .aload_n 0, 1, [], 0), (54, .getfield 35, 3, [10, 10, 1016], 0), (57, .iconst 0, 1, [], 0), (58, .iaload, 1, [], 0), (59, .ifCond .ne 6, 3, [65], 0), (62, .bipush (-9), 2, [], 0), (64, .ireturn, 1, [], 0), (65, .iconst 0, 1, [], 0), (66, .istore 6, 2, [], 0), (68, .iload 6, 2, [], 0), (70, .aload_n 0, 1, [], 0), (71, .getfield 35, 3, [10, 10, 1016], 0), (74, .iconst 0, 1, [], 0), (75, .iaload, 1, [], 0), (76, .if_icmp .ge 31, 3, [107], 0), (79, .aload_n 0, 1, [], 0), (80, .getfield 84, 3, [10, 31, 1037], 0), (83, .iload 6, 2, [], 0), (85, .aload_n 0, 1, [], 0), (86, .getfield 38, 3, [10, 11, 1017], 0), (89, .iload 6, 2, [], 0), (91, .iaload, 1, [], 0), (92, .aload_n 0, 1, [], 0), (93, .getfield 41, 3, [10, 12, 1018], 0), (96, .iload 6, 2, [], 0), (98, .iaload, 1, [], 0), (99, .imul, 1, [], 0), (100, .iastore, 1, [], 0), (101, .iinc 6 1, 3, [], 0), (104, .goto (-36), 3, [68], 0), (107, .iconst 0, 1, [], 0), (108, .istore 6, 2, [], 0), (110, .iconst 0, 1, [], 0)]
def P_X10_meeting_c1 : List (Nat × mE) := [(111, .istore 7, 2, [], 0), (113, .iload_n 2, 1, [], 0), (114, .istore 8, 2, [], 0), (116, .iload 4, 2, [], 0), (118, .istore 9, 2, [], 0), (120, .aload_n 0, 1, [], 0), (121, .invokevirtual 221, 3, [172, 0, 10, 1299, 1301, 64], 0), (124, .ifCond .le 67, 3, [191], 0), (127, .iload 8, 2, [], 0), (129, .iload 9, 2, [], 0), (131, .if_icmp .ge 8, 3, [139], 0), (134, .iload 8, 2, [], 0), (136, .goto 5, 3, [141], 0), (139, .iload 9, 2, [], 0), (141, .istore 7, 2, [], 0), (143, .iload 8, 2, [], 0), (145, .iload 7, 2, [], 0), (147, .if_icmp .ne 20, 3, [167], 0), (150, .iload 6, 2, [], 0), (152, .aload_n 0, 1, [], 0), (153, .iload_n 1, 1, [], 0), (154, .iconst 1, 1, [], 0), (155, .invokevirtual 224, 3, [171, 2, 10, 1303, 1305, 65], 0), (158, .iadd, 1, [], 0), (159, .istore 6, 2, [], 0), (161, .iload 8, 2, [], 0), (163, .iload_n 2, 1, [], 0), (164, .iadd, 1, [], 0), (165, .istore 8, 2, [], 0), (167, .iload 9, 2, [], 0), (169, .iload 7, 2, [], 0), (171, .if_icmp .ne (-51), 3, [120], 0), (174, .aload_n 0, 1, [], 0), (175, .iload_n 3, 1, [], 0), (176, .iconst (-1), 1, [], 0), (177, .invokevirtual 224, 3, [171, 2, 10, 1303, 1305, 65], 0), (180, .pop, 1, [], 0), (181, .iload 9, 2, [], 0), (183, .iload 4, 2, [], 0), (185, .iadd, 1, [], 0), (186, .istore 9, 2, [], 0), (188, .goto (-68), 3, [120], 0), (191, .iload 5, 2, [], 0), (193, .ifCond .ne 8, 3, [201], 0), (196, .iload 7, 2, [], 0), (198, .goto 18, 3, [216], 0), (201, .iload 5, 2, [], 0), (203, .iconst 1, 1, [], 0), (204, .if_icmp .ne 10, 3, [214], 0), (207, .aload_n 0, 1, [], 0), (208, .getfield 218, 3, [10, 32, 1038], 0), (211, .goto 5, 3, [216], 0), (214, .iload 6, 2, [], 0), (216, .ireturn, 1, [], 0)]
def P_X10_meeting : List (Nat × mE) := P_X10_meeting_c0 ++ (P_X10_meeting_c1)
def P_X10_songs : List (Nat × mE) := [(0, .iload_n 1, 1, [], 0), (1, .iconst 1, 1, [], 0), (2, .bipush 99, 2, [], 0), (4, .invokestatic 108, 3, [130, 3, 0, 1138, 1139], 0), (7, .ifCond .eq 36, 3, [43], 0), (10, .iload_n 3, 1, [], 0), (11, .iconst 1, 1, [], 0), (12, .bipush 99, 2, [], 0), (14, .invokestatic 108, 3, [130, 3, 0, 1138, 1139], 0), (17, .ifCond .eq 26, 3, [43], 0), (20, .iload_n 2, 1, [], 0), (21, .iconst 0, 1, [], 0), (22, .sipush 999, 3, [], 0), (25, .invokestatic 108, 3, [130, 3, 0, 1138, 1139], 0), (28, .ifCond .eq 15, 3, [43], 0), (31, .iload 4, 2, [], 0), (33, .iconst 0, 1, [], 0), (34, .sipush 999, 3, [], 0), (37, .invokestatic 108, 3, [130, 3, 0, 1138, 1139], 0), (40, .ifCond .ne 5, 3, [45], 0), (43, .iconst (-1), 1, [], 0), (44, .ireturn, 1, [], 0), (45, .iload_n 2, 1, [], 0), (46, .iload 4, 2, [], 0), (48, .if_icmp .le 7, 3, [55], 0), (51, .iload_n 2, 1, [], 0), (52, .goto 5, 3, [57], 0), (55, .iload 4, 2, [], 0), (57, .istore 5, 2, [], 0), (59, .iload 5, 2, [], 0), (61, .istore 6, 2, [], 0), (63, .iload 6, 2, [], 0), (65, .iload 5, 2, [], 0), (67, .iload_n 1, 1, [], 0), (68, .iload_n 3, 1, [], 0), (69, .imul, 1, [], 0), (70, .iadd, 1, [], 0), (71, .if_icmp .gt 31, 3, [102], 0), (74, .iload 6, 2, [], 0), (76, .iload_n 2, 1, [], 0), (77, .isub, 1, [], 0), (78, .iload_n 1, 1, [], 0), (79, .irem, 1, [], 0), (80, .ifCond .ne 16, 3, [96], 0), (83, .iload 6, 2, [], 0), (85, .iload 4, 2, [], 0), (87, .isub, 1, [], 0), (88, .iload_n 3, 1, [], 0), (89, .irem, 1, [], 0), (90, .ifCond .ne 6, 3, [96], 0), (93, .iload 6, 2, [], 0), (95, .ireturn, 1, [], 0), (96, .iinc 6 1, 3, [], 0), (99, .goto (-36), 3, [63], 0), (102, .bipush (-9), 2, [], 0), (104, .ireturn, 1, [], 0)]
def P_X10_hole : List (Nat × mE) := [(0, .iload_n 1, 1, [], 0), (1, .iconst 0, 1, [], 0), (2, .bipush 99, 2, [], 0), (4, .invokestatic 108, 3, [130, 3, 0, 1138, 1139], 0), (7, .ifCond .eq 24, 3, [31], 0), (10, .iload_n 2, 1, [], 0), (11, .iconst 1, 1, [], 0), (12, .bipush 99, 2, [], 0), (14, .invokestatic 108, 3, [130, 3, 0, 1138, 1139], 0), (17, .ifCond .eq 14, 3, [31], 0), (20, .iload_n 3, 1, [], 0), (21, .iload_n 1, 1, [], 0), (22, .sipush 200, 3, [], 0), (25, .invokestatic 108, 3, [130, 3, 0, 1138, 1139], 0), (28, .ifCond .ne 5, 3, [33], 0), (31, .iconst (-1), 1, [], 0), (32, .ireturn, 1, [], 0), (33, .aload_n 0, 1, [], 0), (34, .getfield 227, 3, [10, 33, 1039], 0), (37, .bipush 8, 2, [], 0), (39, .if_icmp .ne 6, 3, [45], 0), (42, .bipush (-3), 2, [], 0), (44, .ireturn, 1, [], 0), (45, .aload_n 0, 1, [], 0), (46, .getfield 87, 3, [10, 34, 1040], 0), (49, .aload_n 0, 1, [], 0), (50, .getfield 227, 3, [10, 33, 1039], 0), (53, .iload_n 1, 1, [], 0), (54, .iastore, 1, [], 0), (55, .aload_n 0, 1, [], 0), (56, .getfield 90, 3, [10, 35, 1041], 0), (59, .aload_n 0, 1, [], 0), (60, .getfield 227, 3, [10, 33, 1039], 0), (63, .iload_n 2, 1, [], 0), (64, .iastore, 1, [], 0), (65, .aload_n 0, 1, [], 0), (66, .getfield 93, 3, [10, 36, 1042], 0), (69, .aload_n 0, 1, [], 0), (70, .getfield 227, 3, [10, 33, 1039], 0), (73, .iload_n 3, 1, [], 0), (74, .iastore, 1, [], 0), (75, .aload_n 0, 1, [], 0), (76, .dup, 1, [], 0), (77, .getfield 227, 3, [10, 33, 1039], 0), (80, .iconst 1, 1, [], 0), (81, .iadd, 1, [], 0), (82, .putfield 227, 3, [10, 33, 1039], 0), (85, .aload_n 0, 1, [], 0), (86, .getfield 227, 3, [10, 33, 1039], 0), (89, .ireturn, 1, [], 0)]
def P_X10_nextHole : List (Nat × mE) := [(0, .bipush (-9), 2, [], 0), (2, .istore_n 2, 1, [], 0), (3, .iconst 0, 1, [], 0), (4, .istore_n 3, 1, [], 0), (5, .iload_n 3, 1, [], 0), (6, .aload_n 0, 1, [], 0), (7, .getfield 227, 3, [10, 33, 1039], 0), (10, .if_icmp .ge 77, 3, [87], 0), (13, .aload_n 0, 1, [], 0), (14, .getfield 96, 3, [10, 37, 1043], 0), (17, .iload_n 3, 1, [], 0), (18, .iaload, 1, [], 0), (19, .ifCond .le 27, 3, [46], 0), (22, .aload_n 0, 1, [], 0), (23, .getfield 87, 3, [10, 34, 1040], 0), (26, .iload_n 3, 1, [], 0), (27, .iaload, 1, [], 0), (28, .iload_n 1, 1, [], 0), (29, .if_icmp .gt 17, 3, [46], 0), (32, .iload_n 1, 1, [], 0), (33, .aload_n 0, 1, [], 0), (34, .getfield 93, 3, [10, 36, 1042], 0), (37, .iload_n 3, 1, [], 0), (38, .iaload, 1, [], 0), (39, .if_icmp .ge 7, 3, [46], 0), (42, .iconst 1, 1, [], 0), (43, .goto 4, 3, [47], 0), (46, .iconst 0, 1, [], 0), (47, .istore 4, 2, [], 0), (49, .iload 4, 2, [], 0), (51, .ifCond .eq 28, 3, [79], 0), (54, .iload_n 2, 1, [], 0), (55, .bipush (-9), 2, [], 0), (57, .if_icmp .eq 18, 3, [75], 0), (60, .aload_n 0, 1, [], 0), (61, .getfield 93, 3, [10, 36, 1042], 0), (64, .iload_n 3, 1, [], 0), (65, .iaload, 1, [], 0), (66, .aload_n 0, 1, [], 0), (67, .getfield 93, 3, [10, 36, 1042], 0), (70, .iload_n 2, 1, [], 0), (71, .iaload, 1, [], 0), (72, .if_icmp .ge 7, 3, [79], 0), (75, .iload_n 3, 1, [], 0), (76, .goto 4, 3, [80], 0), (79, .iload_n 2, 1, [], 0), (80, .istore_n 2, 1, [], 0), (81, .iinc 3 1, 3, [], 0), (84, .goto (-79), 3, [5], 0), (87, .iload_n 2, 1, [], 0), (88, .ireturn, 1, [], 0)]
def P_X10_isClosed_c0 : List (Nat × mE) := [(0, .iconst 0, 1, [], 0), (1, .istore_n 2, 1, [], 0), (2, .iload_n 2, 1, [], 0), (3, .aload_n 0, 1, [], 0), (4, .getfield 227, 3, [10, 33, 1039], 0), (7, .if_icmp .ge 21, 3, [28], 0), (10, .aload_n 0, 1, [], 0), (11, .getfield 96, 3, [10, 37, 1043], 0), (14, .iload_n 2, 1, [], 0), (15, .aload_n 0, 1, [], 0), (16, .getfield 90, 3, [10, 35, 1041], 0), (19, .iload_n 2, 1, [], 0), (20, .iaload, 1, [], 0), (21, .iastore, 1, [], 0), (22, .iinc 2 1, 3, [], 0), (25, .goto (-23), 3, [2], 0), (28, .iconst 0, 1, [], 0), (29, .istore_n 2, 1, [], 0), (30, .iload_n 2, 1, [], 0), (31, .sipush 200, 3, [], 0), (34, .if_icmp .ge 80, 3, [114], 0), (37, .iload_n 1, 1, [], 0), (38, .istore_n 3, 1, [], 0), (39, .aload_n 0, 1, [], 0), (40, .iload_n 2, 1, [], 0), (41, .invokevirtual 230, 3, [176, 1, 10, 1323, 1325, 67], 0), (44, .istore 4, 2, [], 0), (46, .iload_n 3, 1, [], 0), (47, .ifCond .le 61, 3, [108], 0), (50, .iload 4, 2, [], 0), (52, .bipush (-9), 2, [], 0), (54, .if_icmp .eq 54, 3, [108], 0), (57, .aload_n 0, 1, [], 0), (58, .getfield 96, 3, [10, 37, 1043], 0), (61, .iload 4, 2, [], 0), (63, .iaload, 1, [], 0), (64, .iload_n 3, 1, [], 0), (65, .if_icmp .ge 13, 3, [78], 0), (68, .aload_n 0, 1, [], 0), (69, .getfield 96, 3, [10, 37, 1043], 0), (72, .iload 4, 2, [], 0), (74, .iaload, 1, [], 0), (75, .goto 4, 3, [79], 0), (78, .iload_n 3, 1, [], 0), (79, .istore 5, 2, [], 0), (81, .aload_n 0, 1, [], 0), (82, .getfield 96, 3, [10, 37, 1043], 0), (85, .iload 4, 2, [], 0), (87, .dup2, 1, [], 0), (88, .iaload, 1, [], 0), (89, .iload 5, 2, [], 0), (91, .isub, 1, [], 0), (92, .iastore, 1, [], 0), (93, .iload_n 3, 1, [], 0), (94, .iload 5, 2, [], 0), (96, .isub, 1, [], 0), (97, .istore_n 3, 1, [], 0), (98, .aload_n 0, 1, [], 0), (99, .iload_n 2, 1, [], 0), (100, .invokevirtual 230, 3, [176, 1, 10, 1323, 1325, 67], 0)]
def P_X10_isClosed_c1 : List (Nat × mE) := [(103, .istore 4, 2, [], 0), (105, .goto (-59), 3, [46], 0), (108, .iinc 2 1, 3, [], 0), (111, .goto (-81), 3, [30], 0), (114, .iconst 1, 1, [], 0), (115, .istore_n 2, 1, [], 0), (116, .iconst 0, 1, [], 0), (117, .istore_n 3, 1, [], 0), (118, .iload_n 3, 1, [], 0), (119, .aload_n 0, 1, [], 0), (120, .getfield 227, 3, [10, 33, 1039], 0), (123, .if_icmp .ge 28, 3, [151], 0), (126, .iload_n 2, 1, [], 0), (127, .ifCond .eq 16, 3, [143], 0), (130, .aload_n 0, 1, [], 0), (131, .getfield 96, 3, [10, 37, 1043], 0), (134, .iload_n 3, 1, [], 0), (135, .iaload, 1, [], 0), (136, .ifCond .ne 7, 3, [143], 0), (139, .iconst 1, 1, [], 0), (140, .goto 4, 3, [144], 0), (143, .iconst 0, 1, [], 0), (144, .istore_n 2, 1, [], 0), (145, .iinc 3 1, 3, [], 0), (148, .goto (-30), 3, [118], 0), (151, .iload_n 2, 1, [], 0), (152, .ireturn, 1, [], 0)]
def P_X10_isClosed : List (Nat × mE) := P_X10_isClosed_c0 ++ (P_X10_isClosed_c1)
def P_X10_night : List (Nat × mE) := [(0, .iload_n 1, 1, [], 0), (1, .iconst 1, 1, [], 0), (2, .bipush 99, 2, [], 0), (4, .invokestatic 108, 3, [130, 3, 0, 1138, 1139], 0), (7, .ifCond .eq 19, 3, [26], 0), (10, .aload_n 0, 1, [], 0), (11, .iload_n 1, 1, [], 0), (12, .invokevirtual 233, 3, [177, 1, 10, 1319, 1321, 66], 0), (15, .ifCond .eq 7, 3, [22], 0), (18, .iconst 1, 1, [], 0), (19, .goto 8, 3, [27], 0), (22, .iconst 0, 1, [], 0), (23, .goto 4, 3, [27], 0), (26, .iconst (-1), 1, [], 0), (27, .ireturn, 1, [], 0)]
def P_X10_least : List (Nat × mE) := [(0, .iconst 1, 1, [], 0), (1, .istore_n 1, 1, [], 0), (2, .iload_n 1, 1, [], 0), (3, .bipush 99, 2, [], 0), (5, .if_icmp .gt 19, 3, [24], 0), (8, .aload_n 0, 1, [], 0), (9, .iload_n 1, 1, [], 0), (10, .invokevirtual 233, 3, [177, 1, 10, 1319, 1321, 66], 0), (13, .ifCond .eq 5, 3, [18], 0), (16, .iload_n 1, 1, [], 0), (17, .ireturn, 1, [], 0), (18, .iinc 1 1, 3, [], 0), (21, .goto (-19), 3, [2], 0), (24, .bipush (-9), 2, [], 0), (26, .ireturn, 1, [], 0)]
def P_X10_dry : List (Nat × mE) := [(0, .aload_n 0, 1, [], 0), (1, .getfield 227, 3, [10, 33, 1039], 0), (4, .istore_n 1, 1, [], 0), (5, .aload_n 0, 1, [], 0), (6, .iconst 0, 1, [], 0), (7, .putfield 227, 3, [10, 33, 1039], 0), (10, .iload_n 1, 1, [], 0), (11, .ireturn, 1, [], 0)]
def P_X10_tell : List (Nat × mE) := [(0, .iload_n 1, 1, [], 0), (1, .iconst 0, 1, [], 0), (2, .bipush 99, 2, [], 0), (4, .invokestatic 108, 3, [130, 3, 0, 1138, 1139], 0), (7, .ifCond .eq 19, 3, [26], 0), (10, .aload_n 0, 1, [], 0), (11, .iload_n 2, 1, [], 0), (12, .invokevirtual 164, 3, [141, 1, 10, 1185, 1187, 48], 0), (15, .ifCond .eq 11, 3, [26], 0), (18, .aload_n 0, 1, [], 0), (19, .iload_n 3, 1, [], 0), (20, .invokevirtual 168, 3, [142, 1, 10, 1193, 1195, 49], 0), (23, .ifCond .ne 5, 3, [28], 0), (26, .iconst (-1), 1, [], 0), (27, .ireturn, 1, [], 0), (28, .aload_n 0, 1, [], 0), (29, .getfield 161, 3, [10, 38, 1044], 0), (32, .bipush 30, 2, [], 0), (34, .if_icmp .ne 6, 3, [40], 0), (37, .bipush (-3), 2, [], 0), (39, .ireturn, 1, [], 0), (40, .aload_n 0, 1, [], 0), (41, .getfield 99, 3, [10, 39, 1045], 0), (44, .aload_n 0, 1, [], 0), (45, .getfield 161, 3, [10, 38, 1044], 0), (48, .iload_n 1, 1, [], 0), (49, .iastore, 1, [], 0), (50, .aload_n 0, 1, [], 0), (51, .getfield 102, 3, [10, 40, 1046], 0), (54, .aload_n 0, 1, [], 0), (55, .getfield 161, 3, [10, 38, 1044], 0), (58, .iload_n 2, 1, [], 0), (59, .iastore, 1, [], 0), (60, .aload_n 0, 1, [], 0), (61, .getfield 105, 3, [10, 41, 1047], 0), (64, .aload_n 0, 1, [], 0), (65, .getfield 161, 3, [10, 38, 1044], 0), (68, .iload_n 3, 1, [], 0), (69, .iastore, 1, [], 0), (70, .aload_n 0, 1, [], 0), (71, .dup, 1, [], 0), (72, .getfield 161, 3, [10, 38, 1044], 0), (75, .iconst 1, 1, [], 0), (76, .iadd, 1, [], 0), (77, .putfield 161, 3, [10, 38, 1044], 0), (80, .aload_n 0, 1, [], 0), (81, .getfield 161, 3, [10, 38, 1044], 0), (84, .ireturn, 1, [], 0)]
def P_X10_isFalse_c0 : List (Nat × mE) := [(0, .iconst 0, 1, [], 0), (1, .istore_n 2, 1, [], 0), (2, .iconst 0, 1, [], 0), (3, .istore_n 3, 1, [], 0), (4, .iload_n 3, 1, [], 0), (5, .aload_n 0, 1, [], 0), (6, .getfield 161, 3, [10, 38, 1044], 0), (9, .if_icmp .ge 100, 3, [109], 0), (12, .iconst 0, 1, [], 0), (13, .istore 4, 2, [], 0), (15, .iload 4, 2, [], 0), (17, .iload_n 3, 1, [], 0), (18, .if_icmp .ge 85, 3, [103], 0), (21, .iload_n 2, 1, [], 0), (22, .ifCond .ne 69, 3, [91], 0), (25, .aload_n 0, 1, [], 0), (26, .getfield 99, 3, [10, 39, 1045], 0), (29, .iload_n 3, 1, [], 0), (30, .iaload, 1, [], 0), (31, .iload_n 1, 1, [], 0), (32, .if_icmp .ne 63, 3, [95], 0), (35, .aload_n 0, 1, [], 0), (36, .getfield 99, 3, [10, 39, 1045], 0), (39, .iload 4, 2, [], 0), (41, .iaload, 1, [], 0), (42, .iload_n 1, 1, [], 0), (43, .if_icmp .ne 52, 3, [95], 0), (46, .aload_n 0, 1, [], 0), (47, .getfield 102, 3, [10, 40, 1046], 0), (50, .iload_n 3, 1, [], 0), (51, .iaload, 1, [], 0), (52, .aload_n 0, 1, [], 0), (53, .getfield 102, 3, [10, 40, 1046], 0), (56, .iload 4, 2, [], 0), (58, .iaload, 1, [], 0), (59, .if_icmp .ne 7, 3, [66], 0), (62, .iconst 1, 1, [], 0), (63, .goto 4, 3, [67], 0), (66, .iconst 0, 1, [], 0), (67, .aload_n 0, 1, [], 0), (68, .getfield 105, 3, [10, 41, 1047], 0), (71, .iload_n 3, 1, [], 0), (72, .iaload, 1, [], 0), (73, .aload_n 0, 1, [], 0), (74, .getfield 105, 3, [10, 41, 1047], 0), (77, .iload 4, 2, [], 0), (79, .iaload, 1, [], 0), (80, .if_icmp .ne 7, 3, [87], 0), (83, .iconst 1, 1, [], 0), (84, .goto 4, 3, [88], 0), (87, .iconst 0, 1, [], 0), (88, .if_icmp .eq 7, 3, [95], 0), (91, .iconst 1, 1, [], 0), (92, .goto 4, 3, [96], 0), (95, .iconst 0, 1, [], 0), (96, .istore_n 2, 1, [], 0), (97, .iinc 4 1, 3, [], 0), (100, .goto (-85), 3, [15], 0), (103, .iinc 3 1, 3, [], 0), (106, .goto (-102), 3, [4], 0)]
def P_X10_isFalse_c1 : List (Nat × mE) := [(109, .iload_n 2, 1, [], 0), (110, .ireturn, 1, [], 0)]
def P_X10_isFalse : List (Nat × mE) := P_X10_isFalse_c0 ++ (P_X10_isFalse_c1)
def P_X10_cheats_c0 : List (Nat × mE) := [(0, .iload_n 1, 1, [], 0), (1, .iconst 0, 1, [], 0), (2, .iconst 1, 1, [], 0), (3, .invokestatic 108, 3, [130, 3, 0, 1138, 1139], 0), (6, .ifCond .ne 5, 3, [11], 0), (9, .iconst (-1), 1, [], 0), (10, .ireturn, 1, [], 0), (11, .iconst 0, 1, [], 0), (12, .istore_n 2, 1, [], 0), (13, .iconst 0, 1, [], 0), (14, .istore_n 3, 1, [], 0), (15, .iconst 0, 1, [], 0), (16, .istore 4, 2, [], 0), (18, .iload 4, 2, [], 0), (20, .aload_n 0, 1, [], 0), (21, .getfield 161, 3, [10, 38, 1044], 0), (24, .if_icmp .ge 75, 3, [99], 0), (27, .iconst 0, 1, [], 0), (28, .istore 5, 2, [], 0), (30, .iload 5, 2, [], 0), (32, .iload 4, 2, [], 0), (34, .if_icmp .ge 59, 3, [93], 0), (37, .iload_n 2, 1, [], 0), (38, .aload_n 0, 1, [], 0), (39, .getfield 102, 3, [10, 40, 1046], 0), (42, .iload 4, 2, [], 0), (44, .iaload, 1, [], 0), (45, .aload_n 0, 1, [], 0), (46, .getfield 102, 3, [10, 40, 1046], 0), (49, .iload 5, 2, [], 0), (51, .iaload, 1, [], 0), (52, .if_icmp .ne 32, 3, [84], 0), (55, .aload_n 0, 1, [], 0), (56, .getfield 105, 3, [10, 41, 1047], 0), (59, .iload 4, 2, [], 0), (61, .iaload, 1, [], 0), (62, .aload_n 0, 1, [], 0), (63, .getfield 105, 3, [10, 41, 1047], 0), (66, .iload 5, 2, [], 0), (68, .iaload, 1, [], 0), (69, .if_icmp .ne 15, 3, [84], 0), (72, .iconst 1, 1, [], 0), (73, .aload_n 0, 1, [], 0), (74, .getfield 102, 3, [10, 40, 1046], 0), (77, .iload 4, 2, [], 0), (79, .iaload, 1, [], 0), (80, .ishl, 1, [], 0), (81, .goto 4, 3, [85], 0), (84, .iconst 0, 1, [], 0), (85, .ior, 1, [], 0), (86, .istore_n 2, 1, [], 0), (87, .iinc 5 1, 3, [], 0), (90, .goto (-60), 3, [30], 0), (93, .iinc 4 1, 3, [], 0), (96, .goto (-78), 3, [18], 0), (99, .iconst 0, 1, [], 0), (100, .istore 4, 2, [], 0), (102, .iload 4, 2, [], 0), (104, .bipush 100, 2, [], 0), (106, .if_icmp .ge 26, 3, [132], 0)]
def P_X10_cheats_c1 : List (Nat × mE) := [(109, .iload_n 3, 1, [], 0), (110, .aload_n 0, 1, [], 0), (111, .iload 4, 2, [], 0), (113, .invokevirtual 236, 3, [182, 1, 10, 1343, 1345, 68], 0), (116, .ifCond .eq 7, 3, [123], 0), (119, .iconst 1, 1, [], 0), (120, .goto 4, 3, [124], 0), (123, .iconst 0, 1, [], 0), (124, .iadd, 1, [], 0), (125, .istore_n 3, 1, [], 0), (126, .iinc 4 1, 3, [], 0), (129, .goto (-27), 3, [102], 0), (132, .iload_n 1, 1, [], 0), (133, .ifCond .ne 7, 3, [140], 0), (136, .iload_n 2, 1, [], 0), (137, .goto 4, 3, [141], 0), (140, .iload_n 3, 1, [], 0), (141, .ireturn, 1, [], 0)]
def P_X10_cheats : List (Nat × mE) := P_X10_cheats_c0 ++ (P_X10_cheats_c1)
def P_X10_mark_c0 : List (Nat × mE) := [(0, .iload_n 1, 1, [], 0), (1, .iconst 0, 1, [], 0), (2, .iconst 5, 1, [], 0), (3, .invokestatic 108, 3, [130, 3, 0, 1138, 1139], 0), (6, .ifCond .eq 11, 3, [17], 0), (9, .aload_n 0, 1, [], 0), (10, .iload_n 2, 1, [], 0), (11, .invokevirtual 164, 3, [141, 1, 10, 1185, 1187, 48], 0), (14, .ifCond .ne 6, 3, [20], 0), (17, .ldc 178, 2, [0, 1258], (-1000000)), (19, .ireturn, 1, [], 0), (20, .aload_n 0, 1, [], 0), (21, .getfield 44, 3, [10, 18, 1024], 0), (24, .bipush 6, 2, [], 0), (26, .iload_n 2, 1, [], 0), (27, .iadd, 1, [], 0), (28, .iaload, 1, [], 0), (29, .invokestatic 239, 3, [143, 1, 0, 1351, 1352], 0), (32, .istore_n 3, 1, [], 0), (33, .iload_n 1, 1, [], 0), (34, .tableswitch 157 0 4 #[34, 51, 72, 98, 121], 34, [], 0), (68, .aload_n 0, 1, [], 0), (69, .dup, 1, [], 0), (70, .getfield 242, 3, [10, 0, 1006], 0), (73, .lconst 1, 1, [], 0), (74, .ladd, 1, [], 0), (75, .putfield 242, 3, [10, 0, 1006], 0), (78, .aload_n 0, 1, [], 0), (79, .getfield 17, 3, [10, 4, 1010], 0), (82, .iload_n 2, 1, [], 0), (83, .iaload, 1, [], 0), (84, .ireturn, 1, [], 0), (85, .aload_n 0, 1, [], 0), (86, .dup, 1, [], 0), (87, .getfield 242, 3, [10, 0, 1006], 0), (90, .ldc2_w 246, 3, [1354], 11), (93, .ladd, 1, [], 0), (94, .putfield 242, 3, [10, 0, 1006], 0), (97, .aload_n 0, 1, [], 0), (98, .getfield 17, 3, [10, 4, 1010], 0), (101, .iload_n 2, 1, [], 0), (102, .iaload, 1, [], 0), (103, .iload_n 3, 1, [], 0), (104, .iadd, 1, [], 0), (105, .ireturn, 1, [], 0), (106, .aload_n 0, 1, [], 0), (107, .dup, 1, [], 0), (108, .getfield 242, 3, [10, 0, 1006], 0), (111, .ldc2_w 248, 3, [1355], 101), (114, .ladd, 1, [], 0), (115, .putfield 242, 3, [10, 0, 1006], 0), (118, .aload_n 0, 1, [], 0), (119, .getfield 17, 3, [10, 4, 1010], 0), (122, .iload_n 2, 1, [], 0), (123, .iaload, 1, [], 0), (124, .aload_n 0, 1, [], 0), (125, .getfield 44, 3, [10, 18, 1024], 0), (128, .iconst 0, 1, [], 0), (129, .iaload, 1, [], 0), (130, .iadd, 1, [], 0)]
def P_X10_mark_c1 : List (Nat × mE) := [(131, .ireturn, 1, [], 0), (132, .aload_n 0, 1, [], 0), (133, .dup, 1, [], 0), (134, .getfield 242, 3, [10, 0, 1006], 0), (137, .ldc2_w 250, 3, [1356], 1011), (140, .ladd, 1, [], 0), (141, .putfield 242, 3, [10, 0, 1006], 0), (144, .iconst 2, 1, [], 0), (145, .aload_n 0, 1, [], 0), (146, .getfield 17, 3, [10, 4, 1010], 0), (149, .iload_n 2, 1, [], 0), (150, .iaload, 1, [], 0), (151, .iload_n 3, 1, [], 0), (152, .iadd, 1, [], 0), (153, .imul, 1, [], 0), (154, .ireturn, 1, [], 0), (155, .aload_n 0, 1, [], 0), (156, .dup, 1, [], 0), (157, .getfield 242, 3, [10, 0, 1006], 0), (160, .ldc2_w 252, 3, [1357], 10101), (163, .ladd, 1, [], 0), (164, .putfield 242, 3, [10, 0, 1006], 0), (167, .aload_n 0, 1, [], 0), (168, .getfield 17, 3, [10, 4, 1010], 0), (171, .iload_n 2, 1, [], 0), (172, .iaload, 1, [], 0), (173, .aload_n 0, 1, [], 0), (174, .getfield 44, 3, [10, 18, 1024], 0), (177, .iconst 0, 1, [], 0), (178, .iaload, 1, [], 0), (179, .iadd, 1, [], 0), (180, .aload_n 0, 1, [], 0), (181, .getfield 44, 3, [10, 18, 1024], 0), (184, .iconst 5, 1, [], 0), (185, .iaload, 1, [], 0), (186, .invokestatic 239, 3, [143, 1, 0, 1351, 1352], 0), (189, .isub, 1, [], 0), (190, .ireturn, 1, [], 0), (191, .aload_n 0, 1, [], 0), (192, .dup, 1, [], 0), (193, .getfield 242, 3, [10, 0, 1006], 0), (196, .ldc2_w 254, 3, [1358], 100001), (199, .ladd, 1, [], 0), (200, .putfield 242, 3, [10, 0, 1006], 0), (203, .aload_n 0, 1, [], 0), (204, .getfield 17, 3, [10, 4, 1010], 0), (207, .iload_n 2, 1, [], 0), (208, .iaload, 1, [], 0), (209, .aload_n 0, 1, [], 0), (210, .getfield 20, 3, [10, 5, 1011], 0), (213, .iload_n 2, 1, [], 0), (214, .iaload, 1, [], 0), (215, .isub, 1, [], 0), (216, .ireturn, 1, [], 0)]
def P_X10_mark : List (Nat × mE) := P_X10_mark_c0 ++ (P_X10_mark_c1)
def P_X10_copy : List (Nat × mE) := [(0, .iconst 0, 1, [], 0), (1, .istore_n 3, 1, [], 0), (2, .iload_n 3, 1, [], 0), (3, .bipush 20, 2, [], 0), (5, .if_icmp .ge 31, 3, [36], 0), (8, .aload_n 0, 1, [], 0), (9, .getfield 44, 3, [10, 18, 1024], 0), (12, .bipush 20, 2, [], 0), (14, .iload_n 2, 1, [], 0), (15, .imul, 1, [], 0), (16, .iload_n 3, 1, [], 0), (17, .iadd, 1, [], 0), (18, .aload_n 0, 1, [], 0), (19, .getfield 44, 3, [10, 18, 1024], 0), (22, .bipush 20, 2, [], 0), (24, .iload_n 1, 1, [], 0), (25, .imul, 1, [], 0), (26, .iload_n 3, 1, [], 0), (27, .iadd, 1, [], 0), (28, .iaload, 1, [], 0), (29, .iastore, 1, [], 0), (30, .iinc 3 1, 3, [], 0), (33, .goto (-31), 3, [2], 0), (36, .return_, 1, [], 0)]
def P_X10_keep : List (Nat × mE) := [(0, .iload_n 1, 1, [], 0), (1, .iconst 0, 1, [], 0), (2, .iconst 1, 1, [], 0), (3, .invokestatic 108, 3, [130, 3, 0, 1138, 1139], 0), (6, .ifCond .ne 5, 3, [11], 0), (9, .iconst (-1), 1, [], 0), (10, .ireturn, 1, [], 0), (11, .aload_n 0, 1, [], 0), (12, .iconst 0, 1, [], 0), (13, .iconst 1, 1, [], 0), (14, .iload_n 1, 1, [], 0), (15, .iadd, 1, [], 0), (16, .invokevirtual 256, 3, [185, 2, 10, 1363, 1365, 69], 0), (19, .aload_n 0, 1, [], 0), (20, .getfield 47, 3, [10, 19, 1025], 0), (23, .iload_n 1, 1, [], 0), (24, .iconst 1, 1, [], 0), (25, .bastore, 1, [], 0), (26, .aload_n 0, 1, [], 0), (27, .getfield 44, 3, [10, 18, 1024], 0), (30, .iconst 0, 1, [], 0), (31, .iaload, 1, [], 0), (32, .ireturn, 1, [], 0)]
def P_X10_back : List (Nat × mE) := [(0, .iload_n 1, 1, [], 0), (1, .iconst 0, 1, [], 0), (2, .iconst 1, 1, [], 0), (3, .invokestatic 108, 3, [130, 3, 0, 1138, 1139], 0), (6, .ifCond .ne 5, 3, [11], 0), (9, .iconst (-1), 1, [], 0), (10, .ireturn, 1, [], 0), (11, .aload_n 0, 1, [], 0), (12, .getfield 47, 3, [10, 19, 1025], 0), (15, .iload_n 1, 1, [], 0), (16, .baload, 1, [], 0), (17, .ifCond .ne 6, 3, [23], 0), (20, .bipush (-2), 2, [], 0), (22, .ireturn, 1, [], 0), (23, .aload_n 0, 1, [], 0), (24, .iconst 1, 1, [], 0), (25, .iload_n 1, 1, [], 0), (26, .iadd, 1, [], 0), (27, .iconst 0, 1, [], 0), (28, .invokevirtual 256, 3, [185, 2, 10, 1363, 1365, 69], 0), (31, .aload_n 0, 1, [], 0), (32, .getfield 44, 3, [10, 18, 1024], 0), (35, .iconst 0, 1, [], 0), (36, .iaload, 1, [], 0), (37, .ireturn, 1, [], 0)]
def P_X10_count : List (Nat × mE) := [(0, .iload_n 1, 1, [], 0), (1, .tableswitch 75 0 5 #[39, 46, 53, 60, 65, 70], 39, [], 0), (40, .aload_n 0, 1, [], 0), (41, .getfield 13, 3, [10, 3, 1009], 0), (44, .iconst 0, 1, [], 0), (45, .iaload, 1, [], 0), (46, .ireturn, 1, [], 0), (47, .aload_n 0, 1, [], 0), (48, .getfield 26, 3, [10, 7, 1013], 0), (51, .iconst 0, 1, [], 0), (52, .iaload, 1, [], 0), (53, .ireturn, 1, [], 0), (54, .aload_n 0, 1, [], 0), (55, .getfield 35, 3, [10, 10, 1016], 0), (58, .iconst 0, 1, [], 0), (59, .iaload, 1, [], 0), (60, .ireturn, 1, [], 0), (61, .aload_n 0, 1, [], 0), (62, .getfield 227, 3, [10, 33, 1039], 0), (65, .ireturn, 1, [], 0), (66, .aload_n 0, 1, [], 0), (67, .getfield 161, 3, [10, 38, 1044], 0), (70, .ireturn, 1, [], 0), (71, .aload_n 0, 1, [], 0), (72, .getfield 112, 3, [10, 2, 1008], 0), (75, .ireturn, 1, [], 0), (76, .iconst (-1), 1, [], 0), (77, .ireturn, 1, [], 0)]
def P_X10_trace : List (Nat × mE) := [(0, .aload_n 0, 1, [], 0), (1, .getfield 242, 3, [10, 0, 1006], 0), (4, .lreturn, 1, [], 0)]
def P_L_law_c0 : List (Nat × mE) := [(0, .new 7, 3, [], 0), (3, .dup, 1, [], 0), (4, .invokespecial 9, 3, [], 0), (7, .astore_n 1, 1, [], 0), (8, .new 10, 3, [], 0), (11, .dup, 1, [], 0), (12, .invokespecial 12, 3, [], 0), (15, .astore_n 2, 1, [], 0), (16, .iconst 0, 1, [], 0), (17, .istore_n 3, 1, [], 0), (18, .iload_n 3, 1, [], 0), (19, .aload_n 0, 1, [], 0), (20, .arraylength, 1, [], 0), (21, .bipush 6, 2, [], 0), (23, .isub, 1, [], 0), (24, .if_icmp .gt 964, 3, [988], 0), (27, .aload_n 0, 1, [], 0), (28, .iload_n 3, 1, [], 0), (29, .iaload, 1, [], 0), (30, .bipush 31, 2, [], 0), (32, .iand, 1, [], 0), (33, .tableswitch 949 0 28 #[131, 194, 207, 220, 253, 286, 319, 352, 385, 398, 421, 444, 457, 470, 493, 516, 559, 622, 675, 718, 741, 754, 767, 810, 833, 866, 889, 912, 935], 131, [], 0), (164, .aload_n 1, 1, [], 0), (165, .aload_n 0, 1, [], 0), (166, .iload_n 3, 1, [], 0), (167, .iconst 1, 1, [], 0), (168, .iadd, 1, [], 0), (169, .iaload, 1, [], 0), (170, .i2l, 1, [], 0), (171, .bipush 32, 2, [], 0), (173, .lshl, 1, [], 0), (174, .aload_n 0, 1, [], 0), (175, .iload_n 3, 1, [], 0), (176, .iconst 2, 1, [], 0), (177, .iadd, 1, [], 0), (178, .iaload, 1, [], 0), (179, .i2l, 1, [], 0), (180, .ldc2_w 13, 3, [1379], 4294967295), (183, .land, 1, [], 0), (184, .lor, 1, [], 0), (185, .aload_n 0, 1, [], 0), (186, .iload_n 3, 1, [], 0), (187, .iconst 3, 1, [], 0), (188, .iadd, 1, [], 0), (189, .iaload, 1, [], 0), (190, .invokevirtual 15, 3, [85, 2, 9, 417, 418, 419], 0), (193, .aload_n 2, 1, [], 0), (194, .aload_n 0, 1, [], 0), (195, .iload_n 3, 1, [], 0), (196, .iconst 1, 1, [], 0), (197, .iadd, 1, [], 0), (198, .iaload, 1, [], 0), (199, .i2l, 1, [], 0), (200, .bipush 32, 2, [], 0), (202, .lshl, 1, [], 0), (203, .aload_n 0, 1, [], 0), (204, .iload_n 3, 1, [], 0), (205, .iconst 2, 1, [], 0), (206, .iadd, 1, [], 0), (207, .iaload, 1, [], 0)]
def P_L_law_c1 : List (Nat × mE) := [(208, .i2l, 1, [], 0), (209, .ldc2_w 13, 3, [1379], 4294967295), (212, .land, 1, [], 0), (213, .lor, 1, [], 0), (214, .aload_n 0, 1, [], 0), (215, .iload_n 3, 1, [], 0), (216, .iconst 3, 1, [], 0), (217, .iadd, 1, [], 0), (218, .iaload, 1, [], 0), (219, .invokevirtual 19, 3, [131, 2, 10, 1134, 1135, 1136], 0), (222, .if_icmp .eq 760, 3, [982], 0), (225, .iconst 0, 1, [], 0), (226, .ireturn, 1, [], 0), (227, .aload_n 1, 1, [], 0), (228, .invokevirtual 20, 3, [86, 0, 9, 435, 436, 437], 0), (231, .aload_n 2, 1, [], 0), (232, .invokevirtual 24, 3, [132, 0, 10, 1142, 1143, 1144], 0), (235, .if_icmp .eq 747, 3, [982], 0), (238, .iconst 0, 1, [], 0), (239, .ireturn, 1, [], 0), (240, .aload_n 1, 1, [], 0), (241, .invokevirtual 25, 3, [87, 0, 9, 443, 444, 445], 0), (244, .aload_n 2, 1, [], 0), (245, .invokevirtual 28, 3, [140, 0, 10, 1146, 1147, 1148], 0), (248, .if_icmp .eq 734, 3, [982], 0), (251, .iconst 0, 1, [], 0), (252, .ireturn, 1, [], 0), (253, .aload_n 1, 1, [], 0), (254, .aload_n 0, 1, [], 0), (255, .iload_n 3, 1, [], 0), (256, .iconst 1, 1, [], 0), (257, .iadd, 1, [], 0), (258, .iaload, 1, [], 0), (259, .aload_n 0, 1, [], 0), (260, .iload_n 3, 1, [], 0), (261, .iconst 2, 1, [], 0), (262, .iadd, 1, [], 0), (263, .iaload, 1, [], 0), (264, .invokevirtual 29, 3, [88, 2, 9, 606, 607, 608], 0), (267, .aload_n 2, 1, [], 0), (268, .aload_n 0, 1, [], 0), (269, .iload_n 3, 1, [], 0), (270, .iconst 1, 1, [], 0), (271, .iadd, 1, [], 0), (272, .iaload, 1, [], 0), (273, .aload_n 0, 1, [], 0), (274, .iload_n 3, 1, [], 0), (275, .iconst 2, 1, [], 0), (276, .iadd, 1, [], 0), (277, .iaload, 1, [], 0), (278, .invokevirtual 33, 3, [144, 2, 10, 1181, 1182, 1183], 0), (281, .if_icmp .eq 701, 3, [982], 0), (284, .iconst 0, 1, [], 0), (285, .ireturn, 1, [], 0), (286, .aload_n 1, 1, [], 0), (287, .aload_n 0, 1, [], 0), (288, .iload_n 3, 1, [], 0), (289, .iconst 1, 1, [], 0), (290, .iadd, 1, [], 0), (291, .iaload, 1, [], 0)]
def P_L_law_c2 : List (Nat × mE) := [(292, .aload_n 0, 1, [], 0), (293, .iload_n 3, 1, [], 0), (294, .iconst 2, 1, [], 0), (295, .iadd, 1, [], 0), (296, .iaload, 1, [], 0), (297, .invokevirtual 34, 3, [89, 2, 9, 615, 616, 617], 0), (300, .aload_n 2, 1, [], 0), (301, .aload_n 0, 1, [], 0), (302, .iload_n 3, 1, [], 0), (303, .iconst 1, 1, [], 0), (304, .iadd, 1, [], 0), (305, .iaload, 1, [], 0), (306, .aload_n 0, 1, [], 0), (307, .iload_n 3, 1, [], 0), (308, .iconst 2, 1, [], 0), (309, .iadd, 1, [], 0), (310, .iaload, 1, [], 0), (311, .invokevirtual 37, 3, [145, 2, 10, 1189, 1190, 1191], 0), (314, .if_icmp .eq 668, 3, [982], 0), (317, .iconst 0, 1, [], 0), (318, .ireturn, 1, [], 0), (319, .aload_n 1, 1, [], 0), (320, .aload_n 0, 1, [], 0), (321, .iload_n 3, 1, [], 0), (322, .iconst 1, 1, [], 0), (323, .iadd, 1, [], 0), (324, .iaload, 1, [], 0), (325, .aload_n 0, 1, [], 0), (326, .iload_n 3, 1, [], 0), (327, .iconst 2, 1, [], 0), (328, .iadd, 1, [], 0), (329, .iaload, 1, [], 0), (330, .invokevirtual 38, 3, [90, 2, 9, 627, 628, 629], 0), (333, .aload_n 2, 1, [], 0), (334, .aload_n 0, 1, [], 0), (335, .iload_n 3, 1, [], 0), (336, .iconst 1, 1, [], 0), (337, .iadd, 1, [], 0), (338, .iaload, 1, [], 0), (339, .aload_n 0, 1, [], 0), (340, .iload_n 3, 1, [], 0), (341, .iconst 2, 1, [], 0), (342, .iadd, 1, [], 0), (343, .iaload, 1, [], 0), (344, .invokevirtual 41, 3, [146, 2, 10, 1197, 1198, 1199], 0), (347, .if_icmp .eq 635, 3, [982], 0), (350, .iconst 0, 1, [], 0), (351, .ireturn, 1, [], 0), (352, .aload_n 1, 1, [], 0), (353, .aload_n 0, 1, [], 0), (354, .iload_n 3, 1, [], 0), (355, .iconst 1, 1, [], 0), (356, .iadd, 1, [], 0), (357, .iaload, 1, [], 0), (358, .aload_n 0, 1, [], 0), (359, .iload_n 3, 1, [], 0), (360, .iconst 2, 1, [], 0), (361, .iadd, 1, [], 0), (362, .iaload, 1, [], 0), (363, .invokevirtual 42, 3, [91, 2, 9, 635, 636, 637], 0)]
def P_L_law_c3 : List (Nat × mE) := [(366, .aload_n 2, 1, [], 0), (367, .aload_n 0, 1, [], 0), (368, .iload_n 3, 1, [], 0), (369, .iconst 1, 1, [], 0), (370, .iadd, 1, [], 0), (371, .iaload, 1, [], 0), (372, .aload_n 0, 1, [], 0), (373, .iload_n 3, 1, [], 0), (374, .iconst 2, 1, [], 0), (375, .iadd, 1, [], 0), (376, .iaload, 1, [], 0), (377, .invokevirtual 45, 3, [148, 2, 10, 1201, 1202, 1203], 0), (380, .if_icmp .eq 602, 3, [982], 0), (383, .iconst 0, 1, [], 0), (384, .ireturn, 1, [], 0), (385, .aload_n 1, 1, [], 0), (386, .aload_n 0, 1, [], 0), (387, .iload_n 3, 1, [], 0), (388, .iconst 1, 1, [], 0), (389, .iadd, 1, [], 0), (390, .iaload, 1, [], 0), (391, .aload_n 0, 1, [], 0), (392, .iload_n 3, 1, [], 0), (393, .iconst 2, 1, [], 0), (394, .iadd, 1, [], 0), (395, .iaload, 1, [], 0), (396, .invokevirtual 46, 3, [92, 2, 9, 650, 651, 652], 0), (399, .aload_n 2, 1, [], 0), (400, .aload_n 0, 1, [], 0), (401, .iload_n 3, 1, [], 0), (402, .iconst 1, 1, [], 0), (403, .iadd, 1, [], 0), (404, .iaload, 1, [], 0), (405, .aload_n 0, 1, [], 0), (406, .iload_n 3, 1, [], 0), (407, .iconst 2, 1, [], 0), (408, .iadd, 1, [], 0), (409, .iaload, 1, [], 0), (410, .invokevirtual 49, 3, [150, 2, 10, 1209, 1210, 1211], 0), (413, .if_icmp .eq 569, 3, [982], 0), (416, .iconst 0, 1, [], 0), (417, .ireturn, 1, [], 0), (418, .aload_n 1, 1, [], 0), (419, .invokevirtual 50, 3, [93, 0, 9, 686, 687, 688], 0), (422, .aload_n 2, 1, [], 0), (423, .invokevirtual 53, 3, [151, 0, 10, 1217, 1218, 1219], 0), (426, .if_icmp .eq 556, 3, [982], 0), (429, .iconst 0, 1, [], 0), (430, .ireturn, 1, [], 0), (431, .aload_n 1, 1, [], 0), (432, .aload_n 0, 1, [], 0), (433, .iload_n 3, 1, [], 0), (434, .iconst 1, 1, [], 0), (435, .iadd, 1, [], 0), (436, .iaload, 1, [], 0), (437, .invokevirtual 54, 3, [94, 1, 9, 694, 695, 696], 0), (440, .aload_n 2, 1, [], 0), (441, .aload_n 0, 1, [], 0), (442, .iload_n 3, 1, [], 0), (443, .iconst 1, 1, [], 0)]
def P_L_law_c4 : List (Nat × mE) := [(444, .iadd, 1, [], 0), (445, .iaload, 1, [], 0), (446, .invokevirtual 58, 3, [152, 1, 10, 1221, 1222, 1223], 0), (449, .if_icmp .eq 533, 3, [982], 0), (452, .iconst 0, 1, [], 0), (453, .ireturn, 1, [], 0), (454, .aload_n 1, 1, [], 0), (455, .aload_n 0, 1, [], 0), (456, .iload_n 3, 1, [], 0), (457, .iconst 1, 1, [], 0), (458, .iadd, 1, [], 0), (459, .iaload, 1, [], 0), (460, .invokevirtual 59, 3, [95, 1, 9, 698, 699, 700], 0), (463, .aload_n 2, 1, [], 0), (464, .aload_n 0, 1, [], 0), (465, .iload_n 3, 1, [], 0), (466, .iconst 1, 1, [], 0), (467, .iadd, 1, [], 0), (468, .iaload, 1, [], 0), (469, .invokevirtual 62, 3, [153, 1, 10, 1225, 1226, 1227], 0), (472, .if_icmp .eq 510, 3, [982], 0), (475, .iconst 0, 1, [], 0), (476, .ireturn, 1, [], 0), (477, .aload_n 1, 1, [], 0), (478, .invokevirtual 63, 3, [96, 0, 9, 702, 703, 704], 0), (481, .aload_n 2, 1, [], 0), (482, .invokevirtual 66, 3, [154, 0, 10, 1229, 1178, 1179], 0), (485, .if_icmp .eq 497, 3, [982], 0), (488, .iconst 0, 1, [], 0), (489, .ireturn, 1, [], 0), (490, .aload_n 1, 1, [], 0), (491, .invokevirtual 67, 3, [97, 0, 9, 706, 707, 708], 0), (494, .aload_n 2, 1, [], 0), (495, .invokevirtual 70, 3, [162, 0, 10, 1230, 1231, 1232], 0), (498, .if_icmp .eq 484, 3, [982], 0), (501, .iconst 0, 1, [], 0), (502, .ireturn, 1, [], 0), (503, .aload_n 1, 1, [], 0), (504, .aload_n 0, 1, [], 0), (505, .iload_n 3, 1, [], 0), (506, .iconst 1, 1, [], 0), (507, .iadd, 1, [], 0), (508, .iaload, 1, [], 0), (509, .invokevirtual 71, 3, [98, 1, 9, 750, 751, 752], 0), (512, .aload_n 2, 1, [], 0), (513, .aload_n 0, 1, [], 0), (514, .iload_n 3, 1, [], 0), (515, .iconst 1, 1, [], 0), (516, .iadd, 1, [], 0), (517, .iaload, 1, [], 0), (518, .invokevirtual 74, 3, [165, 1, 10, 1263, 1264, 1265], 0), (521, .if_icmp .eq 461, 3, [982], 0), (524, .iconst 0, 1, [], 0), (525, .ireturn, 1, [], 0), (526, .aload_n 1, 1, [], 0), (527, .aload_n 0, 1, [], 0), (528, .iload_n 3, 1, [], 0), (529, .iconst 1, 1, [], 0), (530, .iadd, 1, [], 0), (531, .iaload, 1, [], 0)]
def P_L_law_c5 : List (Nat × mE) := [(532, .invokevirtual 75, 3, [99, 1, 9, 754, 755, 756], 0), (535, .aload_n 2, 1, [], 0), (536, .aload_n 0, 1, [], 0), (537, .iload_n 3, 1, [], 0), (538, .iconst 1, 1, [], 0), (539, .iadd, 1, [], 0), (540, .iaload, 1, [], 0), (541, .invokevirtual 78, 3, [166, 1, 10, 1275, 1276, 1277], 0), (544, .if_icmp .eq 438, 3, [982], 0), (547, .iconst 0, 1, [], 0), (548, .ireturn, 1, [], 0), (549, .aload_n 1, 1, [], 0), (550, .aload_n 0, 1, [], 0), (551, .iload_n 3, 1, [], 0), (552, .iconst 1, 1, [], 0), (553, .iadd, 1, [], 0), (554, .iaload, 1, [], 0), (555, .aload_n 0, 1, [], 0), (556, .iload_n 3, 1, [], 0), (557, .iconst 2, 1, [], 0), (558, .iadd, 1, [], 0), (559, .iaload, 1, [], 0), (560, .aload_n 0, 1, [], 0), (561, .iload_n 3, 1, [], 0), (562, .iconst 3, 1, [], 0), (563, .iadd, 1, [], 0), (564, .iaload, 1, [], 0), (565, .invokevirtual 79, 3, [100, 3, 9, 799, 800, 801], 0), (568, .aload_n 2, 1, [], 0), (569, .aload_n 0, 1, [], 0), (570, .iload_n 3, 1, [], 0), (571, .iconst 1, 1, [], 0), (572, .iadd, 1, [], 0), (573, .iaload, 1, [], 0), (574, .aload_n 0, 1, [], 0), (575, .iload_n 3, 1, [], 0), (576, .iconst 2, 1, [], 0), (577, .iadd, 1, [], 0), (578, .iaload, 1, [], 0), (579, .aload_n 0, 1, [], 0), (580, .iload_n 3, 1, [], 0), (581, .iconst 3, 1, [], 0), (582, .iadd, 1, [], 0), (583, .iaload, 1, [], 0), (584, .invokevirtual 83, 3, [170, 3, 10, 1279, 1280, 1281], 0), (587, .if_icmp .eq 395, 3, [982], 0), (590, .iconst 0, 1, [], 0), (591, .ireturn, 1, [], 0), (592, .aload_n 1, 1, [], 0), (593, .aload_n 0, 1, [], 0), (594, .iload_n 3, 1, [], 0), (595, .iconst 1, 1, [], 0), (596, .iadd, 1, [], 0), (597, .iaload, 1, [], 0), (598, .aload_n 0, 1, [], 0), (599, .iload_n 3, 1, [], 0), (600, .iconst 2, 1, [], 0), (601, .iadd, 1, [], 0), (602, .iaload, 1, [], 0), (603, .aload_n 0, 1, [], 0)]
def P_L_law_c6 : List (Nat × mE) := [(604, .iload_n 3, 1, [], 0), (605, .iconst 3, 1, [], 0), (606, .iadd, 1, [], 0), (607, .iaload, 1, [], 0), (608, .aload_n 0, 1, [], 0), (609, .iload_n 3, 1, [], 0), (610, .iconst 4, 1, [], 0), (611, .iadd, 1, [], 0), (612, .iaload, 1, [], 0), (613, .aload_n 0, 1, [], 0), (614, .iload_n 3, 1, [], 0), (615, .iconst 5, 1, [], 0), (616, .iadd, 1, [], 0), (617, .iaload, 1, [], 0), (618, .invokevirtual 84, 3, [101, 5, 9, 826, 827, 828], 0), (621, .aload_n 2, 1, [], 0), (622, .aload_n 0, 1, [], 0), (623, .iload_n 3, 1, [], 0), (624, .iconst 1, 1, [], 0), (625, .iadd, 1, [], 0), (626, .iaload, 1, [], 0), (627, .aload_n 0, 1, [], 0), (628, .iload_n 3, 1, [], 0), (629, .iconst 2, 1, [], 0), (630, .iadd, 1, [], 0), (631, .iaload, 1, [], 0), (632, .aload_n 0, 1, [], 0), (633, .iload_n 3, 1, [], 0), (634, .iconst 3, 1, [], 0), (635, .iadd, 1, [], 0), (636, .iaload, 1, [], 0), (637, .aload_n 0, 1, [], 0), (638, .iload_n 3, 1, [], 0), (639, .iconst 4, 1, [], 0), (640, .iadd, 1, [], 0), (641, .iaload, 1, [], 0), (642, .aload_n 0, 1, [], 0), (643, .iload_n 3, 1, [], 0), (644, .iconst 5, 1, [], 0), (645, .iadd, 1, [], 0), (646, .iaload, 1, [], 0), (647, .invokevirtual 88, 3, [173, 5, 10, 1295, 1296, 1297], 0), (650, .if_icmp .eq 332, 3, [982], 0), (653, .iconst 0, 1, [], 0), (654, .ireturn, 1, [], 0), (655, .aload_n 1, 1, [], 0), (656, .aload_n 0, 1, [], 0), (657, .iload_n 3, 1, [], 0), (658, .iconst 1, 1, [], 0), (659, .iadd, 1, [], 0), (660, .iaload, 1, [], 0), (661, .aload_n 0, 1, [], 0), (662, .iload_n 3, 1, [], 0), (663, .iconst 2, 1, [], 0), (664, .iadd, 1, [], 0), (665, .iaload, 1, [], 0), (666, .aload_n 0, 1, [], 0), (667, .iload_n 3, 1, [], 0), (668, .iconst 3, 1, [], 0), (669, .iadd, 1, [], 0)]
def P_L_law_c7 : List (Nat × mE) := [(670, .iaload, 1, [], 0), (671, .aload_n 0, 1, [], 0), (672, .iload_n 3, 1, [], 0), (673, .iconst 4, 1, [], 0), (674, .iadd, 1, [], 0), (675, .iaload, 1, [], 0), (676, .invokevirtual 89, 3, [102, 4, 9, 859, 860, 861], 0), (679, .aload_n 2, 1, [], 0), (680, .aload_n 0, 1, [], 0), (681, .iload_n 3, 1, [], 0), (682, .iconst 1, 1, [], 0), (683, .iadd, 1, [], 0), (684, .iaload, 1, [], 0), (685, .aload_n 0, 1, [], 0), (686, .iload_n 3, 1, [], 0), (687, .iconst 2, 1, [], 0), (688, .iadd, 1, [], 0), (689, .iaload, 1, [], 0), (690, .aload_n 0, 1, [], 0), (691, .iload_n 3, 1, [], 0), (692, .iconst 3, 1, [], 0), (693, .iadd, 1, [], 0), (694, .iaload, 1, [], 0), (695, .aload_n 0, 1, [], 0), (696, .iload_n 3, 1, [], 0), (697, .iconst 4, 1, [], 0), (698, .iadd, 1, [], 0), (699, .iaload, 1, [], 0), (700, .invokevirtual 93, 3, [174, 4, 10, 1307, 1308, 1309], 0), (703, .if_icmp .eq 279, 3, [982], 0), (706, .iconst 0, 1, [], 0), (707, .ireturn, 1, [], 0), (708, .aload_n 1, 1, [], 0), (709, .aload_n 0, 1, [], 0), (710, .iload_n 3, 1, [], 0), (711, .iconst 1, 1, [], 0), (712, .iadd, 1, [], 0), (713, .iaload, 1, [], 0), (714, .aload_n 0, 1, [], 0), (715, .iload_n 3, 1, [], 0), (716, .iconst 2, 1, [], 0), (717, .iadd, 1, [], 0), (718, .iaload, 1, [], 0), (719, .aload_n 0, 1, [], 0), (720, .iload_n 3, 1, [], 0), (721, .iconst 3, 1, [], 0), (722, .iadd, 1, [], 0), (723, .iaload, 1, [], 0), (724, .invokevirtual 94, 3, [103, 3, 9, 868, 869, 870], 0), (727, .aload_n 2, 1, [], 0), (728, .aload_n 0, 1, [], 0), (729, .iload_n 3, 1, [], 0), (730, .iconst 1, 1, [], 0), (731, .iadd, 1, [], 0), (732, .iaload, 1, [], 0), (733, .aload_n 0, 1, [], 0), (734, .iload_n 3, 1, [], 0), (735, .iconst 2, 1, [], 0), (736, .iadd, 1, [], 0), (737, .iaload, 1, [], 0)]
def P_L_law_c8 : List (Nat × mE) := [(738, .aload_n 0, 1, [], 0), (739, .iload_n 3, 1, [], 0), (740, .iconst 3, 1, [], 0), (741, .iadd, 1, [], 0), (742, .iaload, 1, [], 0), (743, .invokevirtual 97, 3, [175, 3, 10, 1311, 1312, 1313], 0), (746, .if_icmp .eq 236, 3, [982], 0), (749, .iconst 0, 1, [], 0), (750, .ireturn, 1, [], 0), (751, .aload_n 1, 1, [], 0), (752, .aload_n 0, 1, [], 0), (753, .iload_n 3, 1, [], 0), (754, .iconst 1, 1, [], 0), (755, .iadd, 1, [], 0), (756, .iaload, 1, [], 0), (757, .invokevirtual 98, 3, [104, 1, 9, 877, 878, 879], 0), (760, .aload_n 2, 1, [], 0), (761, .aload_n 0, 1, [], 0), (762, .iload_n 3, 1, [], 0), (763, .iconst 1, 1, [], 0), (764, .iadd, 1, [], 0), (765, .iaload, 1, [], 0), (766, .invokevirtual 101, 3, [178, 1, 10, 1315, 1316, 1317], 0), (769, .if_icmp .eq 213, 3, [982], 0), (772, .iconst 0, 1, [], 0), (773, .ireturn, 1, [], 0), (774, .aload_n 1, 1, [], 0), (775, .invokevirtual 102, 3, [105, 0, 9, 893, 894, 895], 0), (778, .aload_n 2, 1, [], 0), (779, .invokevirtual 105, 3, [179, 0, 10, 1327, 1328, 1329], 0), (782, .if_icmp .eq 200, 3, [982], 0), (785, .iconst 0, 1, [], 0), (786, .ireturn, 1, [], 0), (787, .aload_n 1, 1, [], 0), (788, .invokevirtual 106, 3, [106, 0, 9, 897, 898, 899], 0), (791, .aload_n 2, 1, [], 0), (792, .invokevirtual 109, 3, [180, 0, 10, 1331, 1332, 1333], 0), (795, .if_icmp .eq 187, 3, [982], 0), (798, .iconst 0, 1, [], 0), (799, .ireturn, 1, [], 0), (800, .aload_n 1, 1, [], 0), (801, .aload_n 0, 1, [], 0), (802, .iload_n 3, 1, [], 0), (803, .iconst 1, 1, [], 0), (804, .iadd, 1, [], 0), (805, .iaload, 1, [], 0), (806, .aload_n 0, 1, [], 0), (807, .iload_n 3, 1, [], 0), (808, .iconst 2, 1, [], 0), (809, .iadd, 1, [], 0), (810, .iaload, 1, [], 0), (811, .aload_n 0, 1, [], 0), (812, .iload_n 3, 1, [], 0), (813, .iconst 3, 1, [], 0), (814, .iadd, 1, [], 0), (815, .iaload, 1, [], 0), (816, .invokevirtual 110, 3, [107, 3, 9, 901, 902, 903], 0), (819, .aload_n 2, 1, [], 0), (820, .aload_n 0, 1, [], 0), (821, .iload_n 3, 1, [], 0)]
def P_L_law_c9 : List (Nat × mE) := [(822, .iconst 1, 1, [], 0), (823, .iadd, 1, [], 0), (824, .iaload, 1, [], 0), (825, .aload_n 0, 1, [], 0), (826, .iload_n 3, 1, [], 0), (827, .iconst 2, 1, [], 0), (828, .iadd, 1, [], 0), (829, .iaload, 1, [], 0), (830, .aload_n 0, 1, [], 0), (831, .iload_n 3, 1, [], 0), (832, .iconst 3, 1, [], 0), (833, .iadd, 1, [], 0), (834, .iaload, 1, [], 0), (835, .invokevirtual 113, 3, [181, 3, 10, 1335, 1336, 1337], 0), (838, .if_icmp .eq 144, 3, [982], 0), (841, .iconst 0, 1, [], 0), (842, .ireturn, 1, [], 0), (843, .aload_n 1, 1, [], 0), (844, .aload_n 0, 1, [], 0), (845, .iload_n 3, 1, [], 0), (846, .iconst 1, 1, [], 0), (847, .iadd, 1, [], 0), (848, .iaload, 1, [], 0), (849, .invokevirtual 114, 3, [108, 1, 9, 910, 911, 912], 0), (852, .aload_n 2, 1, [], 0), (853, .aload_n 0, 1, [], 0), (854, .iload_n 3, 1, [], 0), (855, .iconst 1, 1, [], 0), (856, .iadd, 1, [], 0), (857, .iaload, 1, [], 0), (858, .invokevirtual 117, 3, [183, 1, 10, 1339, 1340, 1341], 0), (861, .if_icmp .eq 121, 3, [982], 0), (864, .iconst 0, 1, [], 0), (865, .ireturn, 1, [], 0), (866, .aload_n 1, 1, [], 0), (867, .aload_n 0, 1, [], 0), (868, .iload_n 3, 1, [], 0), (869, .iconst 1, 1, [], 0), (870, .iadd, 1, [], 0), (871, .iaload, 1, [], 0), (872, .aload_n 0, 1, [], 0), (873, .iload_n 3, 1, [], 0), (874, .iconst 2, 1, [], 0), (875, .iadd, 1, [], 0), (876, .iaload, 1, [], 0), (877, .invokevirtual 118, 3, [109, 2, 9, 938, 939, 940], 0), (880, .aload_n 2, 1, [], 0), (881, .aload_n 0, 1, [], 0), (882, .iload_n 3, 1, [], 0), (883, .iconst 1, 1, [], 0), (884, .iadd, 1, [], 0), (885, .iaload, 1, [], 0), (886, .aload_n 0, 1, [], 0), (887, .iload_n 3, 1, [], 0), (888, .iconst 2, 1, [], 0), (889, .iadd, 1, [], 0), (890, .iaload, 1, [], 0), (891, .invokevirtual 121, 3, [184, 2, 10, 1347, 1348, 1349], 0), (894, .if_icmp .eq 88, 3, [982], 0), (897, .iconst 0, 1, [], 0)]
def P_L_law_c10 : List (Nat × mE) := [(898, .ireturn, 1, [], 0), (899, .aload_n 1, 1, [], 0), (900, .aload_n 0, 1, [], 0), (901, .iload_n 3, 1, [], 0), (902, .iconst 1, 1, [], 0), (903, .iadd, 1, [], 0), (904, .iaload, 1, [], 0), (905, .invokevirtual 122, 3, [110, 1, 9, 973, 974, 975], 0), (908, .aload_n 2, 1, [], 0), (909, .aload_n 0, 1, [], 0), (910, .iload_n 3, 1, [], 0), (911, .iconst 1, 1, [], 0), (912, .iadd, 1, [], 0), (913, .iaload, 1, [], 0), (914, .invokevirtual 125, 3, [186, 1, 10, 1359, 1360, 1361], 0), (917, .if_icmp .eq 65, 3, [982], 0), (920, .iconst 0, 1, [], 0), (921, .ireturn, 1, [], 0), (922, .aload_n 1, 1, [], 0), (923, .aload_n 0, 1, [], 0), (924, .iload_n 3, 1, [], 0), (925, .iconst 1, 1, [], 0), (926, .iadd, 1, [], 0), (927, .iaload, 1, [], 0), (928, .invokevirtual 126, 3, [111, 1, 9, 988, 989, 990], 0), (931, .aload_n 2, 1, [], 0), (932, .aload_n 0, 1, [], 0), (933, .iload_n 3, 1, [], 0), (934, .iconst 1, 1, [], 0), (935, .iadd, 1, [], 0), (936, .iaload, 1, [], 0), (937, .invokevirtual 129, 3, [187, 1, 10, 1367, 1368, 1369], 0), (940, .if_icmp .eq 42, 3, [982], 0), (943, .iconst 0, 1, [], 0), (944, .ireturn, 1, [], 0), (945, .aload_n 1, 1, [], 0), (946, .aload_n 0, 1, [], 0), (947, .iload_n 3, 1, [], 0), (948, .iconst 1, 1, [], 0), (949, .iadd, 1, [], 0), (950, .iaload, 1, [], 0), (951, .invokevirtual 130, 3, [112, 1, 9, 992, 993, 994], 0), (954, .aload_n 2, 1, [], 0), (955, .aload_n 0, 1, [], 0), (956, .iload_n 3, 1, [], 0), (957, .iconst 1, 1, [], 0), (958, .iadd, 1, [], 0), (959, .iaload, 1, [], 0), (960, .invokevirtual 133, 3, [188, 1, 10, 1371, 1372, 1373], 0), (963, .if_icmp .eq 19, 3, [982], 0), (966, .iconst 0, 1, [], 0), (967, .ireturn, 1, [], 0), (968, .aload_n 1, 1, [], 0), (969, .invokevirtual 134, 3, [113, 0, 9, 996, 997, 998], 0), (972, .aload_n 2, 1, [], 0), (973, .invokevirtual 138, 3, [189, 0, 10, 1375, 1376, 1377], 0), (976, .lcmp, 1, [], 0), (977, .ifCond .eq 5, 3, [982], 0), (980, .iconst 0, 1, [], 0), (981, .ireturn, 1, [], 0)]
def P_L_law_c11 : List (Nat × mE) := [(982, .iinc 3 6, 3, [], 0), (985, .goto (-967), 3, [18], 0), (988, .iconst 1, 1, [], 0), (989, .ireturn, 1, [], 0)]
def P_L_law : List (Nat × mE) := P_L_law_c0 ++ (P_L_law_c1 ++ (P_L_law_c2 ++ (P_L_law_c3 ++ (P_L_law_c4 ++ (P_L_law_c5 ++ (P_L_law_c6 ++ (P_L_law_c7 ++ (P_L_law_c8 ++ (P_L_law_c9 ++ (P_L_law_c10 ++ (P_L_law_c11)))))))))))
/-- the methods: name, code, locals, what it returns, its parameters, the places of two words, rows -/
abbrev mM : Type := MethodName × ByteArray × Nat × Option FieldType × Nat × Nat × Nat × List (Nat × mE)
def mT_0 : List mM := [(yJ6_bitCount_0f7a4, cJ6_bitCount_0f7a4, 1, (some .int), 1, 731, 87, P_J6_bitCount_0f7a4), (yJ13_bitCount_95d88, cJ13_bitCount_95d88, 2, (some .int), 1, 933, 88, P_J13_bitCount_95d88), (yJ9_floorMod_7cf53, cJ9_floorMod_7cf53, 3, (some .int), 2, 866, 86, P_J9_floorMod_7cf53), (yJ9_max_7cf53, cJ9_max_7cf53, 2, (some .int), 2, 673, 86, P_J9_max_7cf53), (yJ9_min_7cf53, cJ9_min_7cf53, 2, (some .int), 2, 685, 86, P_J9_min_7cf53), (yJ0_length_8abf5, cJ0_length_8abf5, 1, (some .int), 0, 492, 82, P_J0_length_8abf5), (yJ0_coder_7d493, cJ0_coder_7d493, 1, (some .byte), 0, 496, 82, P_J0_coder_7d493), (yJ0_charAt_5068e, cJ0_charAt_5068e, 2, (some .char), 1, 502, 82, P_J0_charAt_5068e), (yJ0_isLatin1_aae02, cJ0_isLatin1_aae02, 1, (some .boolean), 0, 506, 82, P_J0_isLatin1_aae02), (yJ0_checkIndex_df160, cJ0_checkIndex_df160, 2, none, 2, 512, 82, P_J0_checkIndex_df160), (yJ1_charAt_3b067, cJ1_charAt_3b067, 2, (some .char), 2, 509, 83, P_J1_charAt_3b067), (yJ3_checkIndex_8e157, cJ3_checkIndex_8e157, 3, (some .int), 3, 517, 84, P_J3_checkIndex_8e157), (yX0_work, cX0_work, 5, none, 2, 713, 75, P_X0_work), (yX0_look, cX0_look, 8, (some .long), 2, 717, 75, P_X0_look), (yX0_findRounds, cX0_findRounds, 3, (some .int), 0, 724, 75, P_X0_findRounds), (yX0_fits, cX0_fits, 6, (some .boolean), 3, 728, 75, P_X0_fits), (yX0_bearable, cX0_bearable, 7, (some .int), 3, 738, 75, P_X0_bearable), (yX0_place, cX0_place, 4, (some .boolean), 2, 742, 75, P_X0_place), (yX0_placeWith, cX0_placeWith, 5, (some .boolean), 3, 747, 75, P_X0_placeWith), (yX1_empty, cX1_empty, 1, none, 0, 544, 73, P_X1_empty), (yX1_hasDigger, cX1_hasDigger, 2, (some .boolean), 1, 613, 73, P_X1_hasDigger), (yX1_hasSpade, cX1_hasSpade, 2, (some .boolean), 1, 622, 73, P_X1_hasSpade), (yX1_hasYard, cX1_hasYard, 2, (some .boolean), 1, 634, 73, P_X1_hasYard), (yX1_addDigger, cX1_addDigger, 4, none, 3, 573, 73, P_X1_addDigger), (yX1_addSpade, cX1_addSpade, 3, none, 2, 585, 73, P_X1_addSpade), (yX1_addYard, cX1_addYard, 3, none, 2, 593, 73, P_X1_addYard), (yX1_suits, cX1_suits, 4, (some .boolean), 2, 646, 73, P_X1_suits), (yX1_product, cX1_product, 3, (some .int), 2, 667, 73, P_X1_product), (yX1_clodsOf, cX1_clodsOf, 2, (some .int), 1, 841, 73, P_X1_clodsOf), (yX1_allClods, cX1_allClods, 3, (some .int), 0, 837, 73, P_X1_allClods), (yX1_yardOfClod, cX1_yardOfClod, 4, (some .int), 1, 858, 73, P_X1_yardOfClod), (yX2_greatest, cX2_greatest, 7, (some .int), 3, 761, 76, P_X2_greatest), (yX2_look, cX2_look, 6, none, 2, 765, 76, P_X2_look), (yX2_findChains, cX2_findChains, 5, none, 1, 772, 76, P_X2_findChains), (yX2_lengthenBy, cX2_lengthenBy, 5, (some .boolean), 2, 780, 76, P_X2_lengthenBy), (yX2_lengthenToSpade, cX2_lengthenToSpade, 5, (some .boolean), 3, 790, 76, P_X2_lengthenToSpade), (yX2_lengthenToDigger, cX2_lengthenToDigger, 5, (some .boolean), 3, 786, 76, P_X2_lengthenToDigger), (yX2_bestLastSpade, cX2_bestLastSpade, 4, (some .int), 0, 794, 76, P_X2_bestLastSpade), (yX2_follow, cX2_follow, 7, none, 1, 798, 76, P_X2_follow), (yX3_add, cX3_add, 4, (some .boolean), 3, 875, 79, P_X3_add), (yX3_leastClods, cX3_leastClods, 4, (some .int), 0, 884, 79, P_X3_leastClods), (yX3_neededWithin, cX3_neededWithin, 5, (some .int), 2, 889, 79, P_X3_neededWithin), (yX4_hold, cX4_hold, 11, none, 5, 833, 78, P_X4_hold), (yX4_firstBeatWith, cX4_firstBeatWith, 6, (some .int), 1, 845, 78, P_X4_firstBeatWith), (yX4_dugBy, cX4_dugBy, 2, (some .int), 1, 850, 78, P_X4_dugBy), (yX5_reset, cX5_reset, 1, none, 0, 597, 74, P_X5_reset), (yX5_copyFrom, cX5_copyFrom, 2, none, 1, 984, 74, P_X5_copyFrom), (yX5_allows, cX5_allows, 4, (some .boolean), 3, 642, 74, P_X5_allows)]
def mT_1 : List mM := [(yX5_canThrow, cX5_canThrow, 4, (some .boolean), 3, 657, 74, P_X5_canThrow), (yX5_earthOf, cX5_earthOf, 5, (some .int), 3, 662, 74, P_X5_earthOf), (yX5_noteThrow, cX5_noteThrow, 3, none, 2, 677, 74, P_X5_noteThrow), (yX5_dig, cX5_dig, 5, none, 2, 682, 74, P_X5_dig), (yX5_endRound, cX5_endRound, 4, (some .int), 1, 693, 74, P_X5_endRound), (yX6_part, cX6_part, 7, none, 3, 806, 77, P_X6_part), (yX6_partRest, cX6_partRest, 5, none, 2, 821, 77, P_X6_partRest), (yX6_offer, cX6_offer, 5, none, 3, 817, 77, P_X6_offer), (yX6_weigh, cX6_weigh, 6, (some .int), 3, 809, 77, P_X6_weigh), (yX6_ringOf, cX6_ringOf, 2, (some .int), 1, 825, 77, P_X6_ringOf), (yX7_hasRoomFor, cX7_hasRoomFor, 2, (some .boolean), 1, 427, 72, P_X7_hasRoomFor), (yX7_append, cX7_append, 5, none, 2, 431, 72, P_X7_append), (yX7_wipe, cX7_wipe, 2, (some .int), 0, 442, 72, P_X7_wipe), (yX7_readInto, cX7_readInto, 3, (some .int), 1, 450, 72, P_X7_readInto), (yX7_readItem, cX7_readItem, 2, none, 1, 548, 72, P_X7_readItem), (yX7_readDigger, cX7_readDigger, 5, none, 1, 552, 72, P_X7_readDigger), (yX7_readSpade, cX7_readSpade, 4, none, 1, 581, 72, P_X7_readSpade), (yX7_readYard, cX7_readYard, 4, none, 1, 589, 72, P_X7_readYard), (yX7_takeWord, cX7_takeWord, 2, none, 1, 556, 72, P_X7_takeWord), (yX7_takeNumber, cX7_takeNumber, 3, (some .int), 1, 560, 72, P_X7_takeNumber), (yX7_takeSemicolon, cX7_takeSemicolon, 1, none, 0, 569, 72, P_X7_takeSemicolon), (yX7_takes, cX7_takes, 2, (some .boolean), 1, 565, 72, P_X7_takes), (yX7_cutIntoTokens, cX7_cutIntoTokens, 4, none, 0, 454, 72, P_X7_cutIntoTokens), (yX7_behindBlanks, cX7_behindBlanks, 3, (some .int), 1, 458, 72, P_X7_behindBlanks), (yX7_endOfToken, cX7_endOfToken, 3, (some .int), 1, 465, 72, P_X7_endOfToken), (yX7_tokenOf, cX7_tokenOf, 4, (some .int), 2, 475, 72, P_X7_tokenOf), (yX7_numberOf, cX7_numberOf, 5, (some .int), 2, 479, 72, P_X7_numberOf), (yX7_wordOf, cX7_wordOf, 3, (some .int), 2, 483, 72, P_X7_wordOf), (yX7_isWord, cX7_isWord, 5, (some .boolean), 3, 488, 72, P_X7_isWord), (yX7_isLetter, cX7_isLetter, 1, (some .boolean), 1, 468, 72, P_X7_isLetter), (yX7_isDigit, cX7_isDigit, 1, (some .boolean), 1, 471, 72, P_X7_isDigit), (yX8_forget, cX8_forget, 1, none, 0, 604, 80, P_X8_forget), (yX8_add, cX8_add, 4, (some .boolean), 3, 908, 80, P_X8_add), (yX8_pairOf, cX8_pairOf, 2, (some .long), 1, 921, 80, P_X8_pairOf), (yX8_whoThrewTwice, cX8_whoThrewTwice, 5, (some .int), 0, 917, 80, P_X8_whoThrewTwice), (yX8_falseRounds, cX8_falseRounds, 3, (some .int), 0, 926, 80, P_X8_falseRounds), (yX8_isFalse, cX8_isFalse, 7, (some .boolean), 1, 930, 80, P_X8_isFalse), (yX9_type, cX9_type, 4, (some .int), 2, 420, 71, P_X9_type), (yX9_clear, cX9_clear, 1, (some .int), 0, 438, 71, P_X9_clear), (yX9_gang, cX9_gang, 3, (some .int), 0, 446, 71, P_X9_gang), (yX9_digger, cX9_digger, 3, (some .int), 2, 609, 71, P_X9_digger), (yX9_spade, cX9_spade, 3, (some .int), 2, 618, 71, P_X9_spade), (yX9_yard, cX9_yard, 3, (some .int), 2, 630, 71, P_X9_yard), (yX9_may, cX9_may, 3, (some .int), 2, 638, 71, P_X9_may), (yX9_throwWith, cX9_throwWith, 4, (some .int), 2, 653, 71, P_X9_throwWith), (yX9_ends, cX9_ends, 1, (some .int), 0, 689, 71, P_X9_ends), (yX9_breaks, cX9_breaks, 2, (some .int), 1, 697, 71, P_X9_breaks), (yX9_now, cX9_now, 2, (some .int), 1, 701, 71, P_X9_now)]
def mT_2 : List mM := [(yX9_anew, cX9_anew, 2, (some .int), 0, 705, 71, P_X9_anew), (yX9_longest, cX9_longest, 1, (some .int), 0, 709, 71, P_X9_longest), (yX9_begins, cX9_begins, 2, (some .int), 1, 753, 71, P_X9_begins), (yX9_most, cX9_most, 2, (some .int), 1, 757, 71, P_X9_most), (yX9_rings, cX9_rings, 4, (some .int), 3, 802, 71, P_X9_rings), (yX9_meeting, cX9_meeting, 7, (some .int), 5, 829, 71, P_X9_meeting), (yX9_songs, cX9_songs, 8, (some .int), 4, 862, 71, P_X9_songs), (yX9_hole, cX9_hole, 4, (some .int), 3, 871, 71, P_X9_hole), (yX9_night, cX9_night, 2, (some .int), 1, 880, 71, P_X9_night), (yX9_least, cX9_least, 2, (some .int), 0, 896, 71, P_X9_least), (yX9_dry, cX9_dry, 2, (some .int), 0, 900, 71, P_X9_dry), (yX9_tell, cX9_tell, 4, (some .int), 3, 904, 71, P_X9_tell), (yX9_cheats, cX9_cheats, 2, (some .int), 1, 913, 71, P_X9_cheats), (yX9_mark, cX9_mark, 3, (some .int), 2, 941, 71, P_X9_mark), (yX9_keep, cX9_keep, 3, (some .int), 1, 976, 71, P_X9_keep), (yX9_back, cX9_back, 3, (some .int), 1, 991, 71, P_X9_back), (yX9_count, cX9_count, 2, (some .int), 1, 995, 71, P_X9_count), (yX9_trace, cX9_trace, 1, (some .long), 0, 999, 71, P_X9_trace), (yX9_imageAt, cX9_imageAt, 2, (some (.object "SpadeRings$Now")), 1, 980, 71, P_X9_imageAt), (yX9_markAsPerson, cX9_markAsPerson, 2, (some .int), 1, 946, 71, P_X9_markAsPerson), (yX9_markAsDigger, cX9_markAsDigger, 2, (some .int), 1, 950, 71, P_X9_markAsDigger), (yX9_markAsSinger, cX9_markAsSinger, 2, (some .int), 1, 956, 71, P_X9_markAsSinger), (yX9_markAsLeft, cX9_markAsLeft, 2, (some .int), 1, 961, 71, P_X9_markAsLeft), (yX9_markAsProphet, cX9_markAsProphet, 2, (some .int), 1, 966, 71, P_X9_markAsProphet), (yX9_markAsSlow, cX9_markAsSlow, 2, (some .int), 1, 971, 71, P_X9_markAsSlow), (yX9_within, cX9_within, 3, (some .boolean), 3, 423, 71, P_X9_within), (yX9_hasBit, cX9_hasBit, 2, (some .boolean), 2, 625, 71, P_X9_hasBit), (yX9_asNumber, cX9_asNumber, 1, (some .int), 1, 577, 71, P_X9_asNumber), (yX9_cell, cX9_cell, 2, (some .int), 2, 461, 71, P_X9_cell), (yX9_put, cX9_put, 3, none, 3, 434, 71, P_X9_put), (yX9_fill, cX9_fill, 3, none, 2, 600, 71, P_X9_fill), (yX9_copy, cX9_copy, 3, none, 2, 987, 71, P_X9_copy), (yX9_quotient, cX9_quotient, 2, (some .int), 2, 670, 71, P_X9_quotient), (yX9_remainder, cX9_remainder, 2, (some .int), 2, 853, 71, P_X9_remainder), (yX10_in, cX10_in, 3, (some .boolean), 3, 1140, 81, P_X10_in), (yX10_type, cX10_type, 5, (some .int), 2, 1137, 81, P_X10_type), (yX10_clear, cX10_clear, 2, (some .int), 0, 1145, 81, P_X10_clear), (yX10_here, cX10_here, 1, (some .int), 0, 1157, 81, P_X10_here), (yX10_meaning, cX10_meaning, 1, (some .int), 1, 1160, 81, P_X10_meaning), (yX10_next, cX10_next, 3, none, 0, 1153, 81, P_X10_next), (yX10_due, cX10_due, 3, (some .int), 1, 1168, 81, P_X10_due), (yX10_number, cX10_number, 3, (some .int), 2, 1172, 81, P_X10_number), (yX10_side, cX10_side, 3, (some .int), 1, 1176, 81, P_X10_side), (yX10_readItem, cX10_readItem, 3, none, 0, 1164, 81, P_X10_readItem), (yX10_gang, cX10_gang, 3, (some .int), 0, 1149, 81, P_X10_gang), (yX10_isDigger, cX10_isDigger, 2, (some .boolean), 1, 1188, 81, P_X10_isDigger), (yX10_isSpade, cX10_isSpade, 2, (some .boolean), 1, 1196, 81, P_X10_isSpade), (yX10_bitsIn, cX10_bitsIn, 3, (some .int), 1, 1353, 81, P_X10_bitsIn)]
def mT_3 : List mM := [(yX10_digger, cX10_digger, 3, (some .int), 2, 1184, 81, P_X10_digger), (yX10_spade, cX10_spade, 3, (some .int), 2, 1192, 81, P_X10_spade), (yX10_yard, cX10_yard, 3, (some .int), 2, 1200, 81, P_X10_yard), (yX10_mayNow, cX10_mayNow, 4, (some .boolean), 2, 1208, 81, P_X10_mayNow), (yX10_may, cX10_may, 3, (some .int), 2, 1204, 81, P_X10_may), (yX10_yardNow, cX10_yardNow, 2, (some .int), 0, 1216, 81, P_X10_yardNow), (yX10_throwWith, cX10_throwWith, 6, (some .int), 2, 1212, 81, P_X10_throwWith), (yX10_ends, cX10_ends, 3, (some .int), 0, 1220, 81, P_X10_ends), (yX10_breaks, cX10_breaks, 3, (some .int), 1, 1224, 81, P_X10_breaks), (yX10_now, cX10_now, 2, (some .int), 1, 1228, 81, P_X10_now), (yX10_anew, cX10_anew, 3, (some .int), 0, 1180, 81, P_X10_anew), (yX10_findEdges, cX10_findEdges, 4, none, 0, 1237, 81, P_X10_findEdges), (yX10_begin, cX10_begin, 2, none, 0, 1249, 81, P_X10_begin), (yX10_weight, cX10_weight, 3, (some .int), 2, 1262, 81, P_X10_weight), (yX10_findWays, cX10_findWays, 8, none, 2, 1257, 81, P_X10_findWays), (yX10_augment, cX10_augment, 7, (some .int), 2, 1253, 81, P_X10_augment), (yX10_isLong, cX10_isLong, 3, (some .boolean), 1, 1245, 81, P_X10_isLong), (yX10_longestBy, cX10_longestBy, 2, (some .int), 0, 1241, 81, P_X10_longestBy), (yX10_longest, cX10_longest, 1, (some .int), 0, 1233, 81, P_X10_longest), (yX10_isUsed, cX10_isUsed, 4, (some .boolean), 1, 1270, 81, P_X10_isUsed), (yX10_leaves, cX10_leaves, 4, (some .boolean), 1, 1274, 81, P_X10_leaves), (yX10_begins, cX10_begins, 4, (some .int), 1, 1266, 81, P_X10_begins), (yX10_most, cX10_most, 4, (some .int), 1, 1278, 81, P_X10_most), (yX10_dugBy, cX10_dugBy, 7, (some .int), 2, 1290, 81, P_X10_dugBy), (yX10_part, cX10_part, 7, (some .boolean), 2, 1286, 81, P_X10_part), (yX10_isAhead, cX10_isAhead, 2, (some .boolean), 0, 1294, 81, P_X10_isAhead), (yX10_rings, cX10_rings, 8, (some .int), 3, 1282, 81, P_X10_rings), (yX10_stroke, cX10_stroke, 7, (some .int), 2, 1306, 81, P_X10_stroke), (yX10_allLeft, cX10_allLeft, 3, (some .int), 0, 1302, 81, P_X10_allLeft), (yX10_meeting, cX10_meeting, 10, (some .int), 5, 1298, 81, P_X10_meeting), (yX10_songs, cX10_songs, 7, (some .int), 4, 1310, 81, P_X10_songs), (yX10_hole, cX10_hole, 4, (some .int), 3, 1314, 81, P_X10_hole), (yX10_nextHole, cX10_nextHole, 5, (some .int), 1, 1326, 81, P_X10_nextHole), (yX10_isClosed, cX10_isClosed, 6, (some .boolean), 1, 1322, 81, P_X10_isClosed), (yX10_night, cX10_night, 2, (some .int), 1, 1318, 81, P_X10_night), (yX10_least, cX10_least, 2, (some .int), 0, 1330, 81, P_X10_least), (yX10_dry, cX10_dry, 2, (some .int), 0, 1334, 81, P_X10_dry), (yX10_tell, cX10_tell, 4, (some .int), 3, 1338, 81, P_X10_tell), (yX10_isFalse, cX10_isFalse, 5, (some .boolean), 1, 1346, 81, P_X10_isFalse), (yX10_cheats, cX10_cheats, 6, (some .int), 1, 1342, 81, P_X10_cheats), (yX10_mark, cX10_mark, 4, (some .int), 2, 1350, 81, P_X10_mark), (yX10_copy, cX10_copy, 4, none, 2, 1366, 81, P_X10_copy), (yX10_keep, cX10_keep, 2, (some .int), 1, 1362, 81, P_X10_keep), (yX10_back, cX10_back, 2, (some .int), 1, 1370, 81, P_X10_back), (yX10_count, cX10_count, 2, (some .int), 1, 1374, 81, P_X10_count), (yX10_trace, cX10_trace, 1, (some .long), 0, 1378, 81, P_X10_trace)]
def mT : List mM := mT_0 ++ (mT_1 ++ (mT_2 ++ (mT_3)))
end
section
/-! what the tables say of the code rows: a program's check, and that it holds -/
def mLen : Instr → Nat
  | .bipush _ => 2
  | .ldc _ => 2
  | .iload _ => 2
  | .lload _ => 2
  | .aload _ => 2
  | .istore _ => 2
  | .lstore _ => 2
  | .astore _ => 2
  | .sipush _ => 3
  | .ldc_w _ => 3
  | .ldc2_w _ => 3
  | .iinc _ _ => 3
  | .goto _ => 3
  | .ifCond _ _ => 3
  | .if_icmp _ _ => 3
  | .ifnull _ => 3
  | .ifnonnull _ => 3
  | .getfield _ => 3
  | .putfield _ => 3
  | .getstatic _ => 3
  | .invokestatic _ => 3
  | .invokevirtual _ => 3
  | .invokespecial _ => 3
  | .new _ => 3
  | _ => 1
/-- a word of the tables, by its place -/
def mWd (i : Nat) (w : Jvm.Cond) : Bool := decide (lw_tbl[i]? = some w)
/-- the words of a call: the callee is the z-th method of the table 'T' -/
def mChkC (T : List mM) (own : String) (idx z np : Nat) (f : MethodName → Bool) : Bool := match T[z]? with
  | some q => Nat.beq q.2.2.2.2.1 np && f q.1
  | none => false
def mChkL (T : List mM) (own : String) (e : mE) : Bool := match e.1, e.2.2.1 with
  | .getfield idx, [ci, k, w] => if ci = 50 then mWd w (.fieldLink own idx "java/lang/String" (if k = 0 then "coder" else "value") (if k = 0 then "B" else "[B"))
      else match vwCl[ci]? with | some q => decide (k < q.2.2) && mWd w (.fieldLink own idx (q.2.1 k).1 (q.2.1 k).2.1 (q.2.1 k).2.2.1) | none => false
  | .putfield idx, [ci, k, w] => match vwCl[ci]? with | some q => decide (k < q.2.2) && mWd w (.fieldLink own idx (q.2.1 k).1 (q.2.1 k).2.1 (q.2.1 k).2.2.1) | none => false
  | .getstatic idx, [0, w] => mWd w (.fieldLink own idx "java/lang/String" "COMPACT_STRINGS" "Z")
  | .getstatic idx, [1, w] => mWd w (.fieldLink own idx "jdk/internal/util/Preconditions" "SIOOBE_FORMATTER" "Ljava/util/function/BiFunction;")
  | .ldc idx, [0, w] => mWd w (.constant own idx (Int32.ofInt e.2.2.2))
  | .ldc idx, [1, i] => decide (i < 5) && decide (own = "SpadeRings$Script") && Nat.beq ([122, 128, 130, 132, 134].getD i 0) idx
  | .ldc_w idx, [w] => mWd w (.constant own idx (Int32.ofInt e.2.2.2))
  | .ldc2_w idx, [w] => mWd w (.constantLong own idx (Int64.ofInt e.2.2.2))
  | .invokestatic idx, [z, n, 0, w, ws] => mChkC T own idx z n (fun y => mWd w (.methodLink own idx y) && mWd ws (.static y))
  | .invokestatic idx, [z, n, 1, w, ws] => mChkC T own idx z n (fun y => mWd w (.methodLinkNest own idx y "SpadeRings") && mWd ws (.static y))
  | .invokevirtual idx, [z, n, ci, w, wi, ws] => mChkC T own idx z n (fun y => mWd w (.methodLink own idx y) && mWd wi (.instanceMethod y) && mWd ws (.selects y.cls y y) && (if ci = 50 then decide (y.cls = "java/lang/String") else match vwCl[ci]? with | some q => decide (y.cls = q.1) | none => false))
  | .getfield _, _ => e.2.2.1.isEmpty
  | .putfield _, _ => e.2.2.1.isEmpty
  | .getstatic _, _ => e.2.2.1.isEmpty
  | .ldc _, _ => e.2.2.1.isEmpty
  | .ldc_w _, _ => e.2.2.1.isEmpty
  | .ldc2_w _, _ => e.2.2.1.isEmpty
  | .invokestatic _, _ => e.2.2.1.isEmpty
  | .invokevirtual _, _ => e.2.2.1.isEmpty
  | _, _ => true
def mJmp (pc : Nat) (o : Int) (l : List Nat) : Bool := match l with
  | [t] => decide ((pc : Int) + o = (t : Int))
  | _ => false
def mChkI (cc : ByteArray) (pc : Nat) (e : mE) : Bool := decide (decode cc pc = .ok (e.1, e.2.1)) && (match e.1 with
  | .tableswitch _ _ _ _ => true
  | .lookupswitch _ _ => true
  | i => Nat.beq e.2.1 (mLen i)) && (match e.1 with
  | .goto o => mJmp pc o e.2.2.1
  | .ifCond _ o => mJmp pc o e.2.2.1
  | .if_icmp _ o => mJmp pc o e.2.2.1
  | .ifnull o => mJmp pc o e.2.2.1
  | .ifnonnull o => mJmp pc o e.2.2.1
  | _ => true)
def mChk (T : List mM) (own : String) (cc : ByteArray) (P : List (Nat × mE)) : Bool := P.all (fun q => mChkI cc q.1 q.2 && mChkL T own q.2)
def mChkM (q : mM) : Bool := match q with
  | (y, _, maxL, _, np, _, wi, _) => mWd wi (.initialized y.cls) && decide ((parseMethodDescriptor y.desc).map (fun d => d.parameters.length) = some np) && plainFor y && decide (y.cls ≠ "java/lang/invoke/MethodHandle") && decide (y.cls ≠ "java/lang/invoke/VarHandle") && Nat.ble maxL 40
theorem mT_ok0 : mT_0.all mChkM = true := by decide +kernel
theorem mT_ok1 : mT_1.all mChkM = true := by decide +kernel
theorem mT_ok2 : mT_2.all mChkM = true := by decide +kernel
theorem mT_ok3 : mT_3.all mChkM = true := by decide +kernel
theorem mT_ok : ∀ q ∈ mT, mChkM q = true := by
  intro q hq
  have h : q ∈ mT_0 ++ (mT_1 ++ (mT_2 ++ mT_3)) := hq
  simp only [List.mem_append] at h
  rcases h with h | h | h | h
  · exact List.all_eq_true.mp mT_ok0 q h
  · exact List.all_eq_true.mp mT_ok1 q h
  · exact List.all_eq_true.mp mT_ok2 q h
  · exact List.all_eq_true.mp mT_ok3 q h
/-- a word that stays true as the machine links -/
def mGoodW (w : Jvm.Cond) : Bool := goodWord w || (match w with | .methodLinkNest _ _ _ _ => true | _ => false)
theorem vwCl_in : ∀ (ci : Nat) (q : vw_C), vwCl[ci]? = some q → ∀ w ∈ u_ws q.1 q.2.1 q.2.2, w ∈ lw_tbl := by
  intro ci q h
  have h0 : ∀ q ∈ vwCl, ∀ w ∈ u_ws q.1 q.2.1 q.2.2, w ∈ lw_tbl := by decide +kernel
  exact h0 q (List.mem_of_getElem? h)
end
section
/-! the code rows hold: by the kernel, some sixty rows at a time -/
theorem ck_J6_bitCount_0f7a4 : mChk mT RJ6 cJ6_bitCount_0f7a4 P_J6_bitCount_0f7a4 = true := by decide +kernel
theorem ck_J13_bitCount_95d88 : mChk mT RJ13 cJ13_bitCount_95d88 P_J13_bitCount_95d88 = true := by decide +kernel
theorem ck_J9_floorMod_7cf53 : mChk mT RJ9 cJ9_floorMod_7cf53 P_J9_floorMod_7cf53 = true := by decide +kernel
theorem ck_J9_max_7cf53 : mChk mT RJ9 cJ9_max_7cf53 P_J9_max_7cf53 = true := by decide +kernel
theorem ck_J9_min_7cf53 : mChk mT RJ9 cJ9_min_7cf53 P_J9_min_7cf53 = true := by decide +kernel
theorem ck_J0_length_8abf5 : mChk mT RJ0 cJ0_length_8abf5 P_J0_length_8abf5 = true := by decide +kernel
theorem ck_J0_coder_7d493 : mChk mT RJ0 cJ0_coder_7d493 P_J0_coder_7d493 = true := by decide +kernel
theorem ck_J0_charAt_5068e : mChk mT RJ0 cJ0_charAt_5068e P_J0_charAt_5068e = true := by decide +kernel
theorem ck_J0_isLatin1_aae02 : mChk mT RJ0 cJ0_isLatin1_aae02 P_J0_isLatin1_aae02 = true := by decide +kernel
theorem ck_J0_checkIndex_df160 : mChk mT RJ0 cJ0_checkIndex_df160 P_J0_checkIndex_df160 = true := by decide +kernel
theorem ck_J1_charAt_3b067 : mChk mT RJ1 cJ1_charAt_3b067 P_J1_charAt_3b067 = true := by decide +kernel
theorem ck_J3_checkIndex_8e157 : mChk mT RJ3 cJ3_checkIndex_8e157 P_J3_checkIndex_8e157 = true := by decide +kernel
theorem ck_X0_work : mChk mT RX0 cX0_work P_X0_work = true := by decide +kernel
theorem ck_X0_look : mChk mT RX0 cX0_look P_X0_look = true := by decide +kernel
theorem ck_X0_findRounds : mChk mT RX0 cX0_findRounds P_X0_findRounds = true := by decide +kernel
theorem ck_X0_fits : mChk mT RX0 cX0_fits P_X0_fits = true := by decide +kernel
theorem ck_X0_bearable : mChk mT RX0 cX0_bearable P_X0_bearable = true := by decide +kernel
theorem ck_X0_place : mChk mT RX0 cX0_place P_X0_place = true := by decide +kernel
theorem ck_X0_placeWith : mChk mT RX0 cX0_placeWith P_X0_placeWith = true := by decide +kernel
theorem ck_X1_empty : mChk mT RX1 cX1_empty P_X1_empty = true := by decide +kernel
theorem ck_X1_hasDigger : mChk mT RX1 cX1_hasDigger P_X1_hasDigger = true := by decide +kernel
theorem ck_X1_hasSpade : mChk mT RX1 cX1_hasSpade P_X1_hasSpade = true := by decide +kernel
theorem ck_X1_hasYard : mChk mT RX1 cX1_hasYard P_X1_hasYard = true := by decide +kernel
theorem ck_X1_addDigger : mChk mT RX1 cX1_addDigger P_X1_addDigger = true := by decide +kernel
theorem ck_X1_addSpade : mChk mT RX1 cX1_addSpade P_X1_addSpade = true := by decide +kernel
theorem ck_X1_addYard : mChk mT RX1 cX1_addYard P_X1_addYard = true := by decide +kernel
theorem ck_X1_suits : mChk mT RX1 cX1_suits P_X1_suits = true := by decide +kernel
theorem ck_X1_product : mChk mT RX1 cX1_product P_X1_product = true := by decide +kernel
theorem ck_X1_clodsOf : mChk mT RX1 cX1_clodsOf P_X1_clodsOf = true := by decide +kernel
theorem ck_X1_allClods : mChk mT RX1 cX1_allClods P_X1_allClods = true := by decide +kernel
theorem ck_X1_yardOfClod : mChk mT RX1 cX1_yardOfClod P_X1_yardOfClod = true := by decide +kernel
theorem ck_X2_greatest : mChk mT RX2 cX2_greatest P_X2_greatest = true := by decide +kernel
theorem ck_X2_look : mChk mT RX2 cX2_look P_X2_look = true := by decide +kernel
theorem ck_X2_findChains_c0 : mChk mT RX2 cX2_findChains P_X2_findChains_c0 = true := by decide +kernel
theorem ck_X2_findChains_c1 : mChk mT RX2 cX2_findChains P_X2_findChains_c1 = true := by decide +kernel
theorem ck_X2_findChains : mChk mT RX2 cX2_findChains P_X2_findChains = true := by
  show (P_X2_findChains_c0 ++ (P_X2_findChains_c1)).all _ = true
  simp only [List.all_append, Bool.and_eq_true]
  exact ⟨ck_X2_findChains_c0, ck_X2_findChains_c1⟩
theorem ck_X2_lengthenBy : mChk mT RX2 cX2_lengthenBy P_X2_lengthenBy = true := by decide +kernel
theorem ck_X2_lengthenToSpade : mChk mT RX2 cX2_lengthenToSpade P_X2_lengthenToSpade = true := by decide +kernel
theorem ck_X2_lengthenToDigger : mChk mT RX2 cX2_lengthenToDigger P_X2_lengthenToDigger = true := by decide +kernel
theorem ck_X2_bestLastSpade : mChk mT RX2 cX2_bestLastSpade P_X2_bestLastSpade = true := by decide +kernel
theorem ck_X2_follow : mChk mT RX2 cX2_follow P_X2_follow = true := by decide +kernel
theorem ck_X3_add : mChk mT RX3 cX3_add P_X3_add = true := by decide +kernel
theorem ck_X3_leastClods : mChk mT RX3 cX3_leastClods P_X3_leastClods = true := by decide +kernel
theorem ck_X3_neededWithin : mChk mT RX3 cX3_neededWithin P_X3_neededWithin = true := by decide +kernel
theorem ck_X4_hold_c0 : mChk mT RX4 cX4_hold P_X4_hold_c0 = true := by decide +kernel
theorem ck_X4_hold_c1 : mChk mT RX4 cX4_hold P_X4_hold_c1 = true := by decide +kernel
theorem ck_X4_hold : mChk mT RX4 cX4_hold P_X4_hold = true := by
  show (P_X4_hold_c0 ++ (P_X4_hold_c1)).all _ = true
  simp only [List.all_append, Bool.and_eq_true]
  exact ⟨ck_X4_hold_c0, ck_X4_hold_c1⟩
theorem ck_X4_firstBeatWith : mChk mT RX4 cX4_firstBeatWith P_X4_firstBeatWith = true := by decide +kernel
theorem ck_X4_dugBy : mChk mT RX4 cX4_dugBy P_X4_dugBy = true := by decide +kernel
theorem ck_X5_reset : mChk mT RX5 cX5_reset P_X5_reset = true := by decide +kernel
theorem ck_X5_copyFrom : mChk mT RX5 cX5_copyFrom P_X5_copyFrom = true := by decide +kernel
theorem ck_X5_allows : mChk mT RX5 cX5_allows P_X5_allows = true := by decide +kernel
theorem ck_X5_canThrow : mChk mT RX5 cX5_canThrow P_X5_canThrow = true := by decide +kernel
theorem ck_X5_earthOf : mChk mT RX5 cX5_earthOf P_X5_earthOf = true := by decide +kernel
theorem ck_X5_noteThrow : mChk mT RX5 cX5_noteThrow P_X5_noteThrow = true := by decide +kernel
theorem ck_X5_dig : mChk mT RX5 cX5_dig P_X5_dig = true := by decide +kernel
theorem ck_X5_endRound : mChk mT RX5 cX5_endRound P_X5_endRound = true := by decide +kernel
theorem ck_X6_part_c0 : mChk mT RX6 cX6_part P_X6_part_c0 = true := by decide +kernel
theorem ck_X6_part_c1 : mChk mT RX6 cX6_part P_X6_part_c1 = true := by decide +kernel
theorem ck_X6_part : mChk mT RX6 cX6_part P_X6_part = true := by
  show (P_X6_part_c0 ++ (P_X6_part_c1)).all _ = true
  simp only [List.all_append, Bool.and_eq_true]
  exact ⟨ck_X6_part_c0, ck_X6_part_c1⟩
theorem ck_X6_partRest : mChk mT RX6 cX6_partRest P_X6_partRest = true := by decide +kernel
theorem ck_X6_offer : mChk mT RX6 cX6_offer P_X6_offer = true := by decide +kernel
theorem ck_X6_weigh : mChk mT RX6 cX6_weigh P_X6_weigh = true := by decide +kernel
theorem ck_X6_ringOf : mChk mT RX6 cX6_ringOf P_X6_ringOf = true := by decide +kernel
theorem ck_X7_hasRoomFor : mChk mT RX7 cX7_hasRoomFor P_X7_hasRoomFor = true := by decide +kernel
theorem ck_X7_append : mChk mT RX7 cX7_append P_X7_append = true := by decide +kernel
theorem ck_X7_wipe : mChk mT RX7 cX7_wipe P_X7_wipe = true := by decide +kernel
theorem ck_X7_readInto : mChk mT RX7 cX7_readInto P_X7_readInto = true := by decide +kernel
theorem ck_X7_readItem : mChk mT RX7 cX7_readItem P_X7_readItem = true := by decide +kernel
theorem ck_X7_readDigger : mChk mT RX7 cX7_readDigger P_X7_readDigger = true := by decide +kernel
theorem ck_X7_readSpade : mChk mT RX7 cX7_readSpade P_X7_readSpade = true := by decide +kernel
theorem ck_X7_readYard : mChk mT RX7 cX7_readYard P_X7_readYard = true := by decide +kernel
theorem ck_X7_takeWord : mChk mT RX7 cX7_takeWord P_X7_takeWord = true := by decide +kernel
theorem ck_X7_takeNumber : mChk mT RX7 cX7_takeNumber P_X7_takeNumber = true := by decide +kernel
theorem ck_X7_takeSemicolon : mChk mT RX7 cX7_takeSemicolon P_X7_takeSemicolon = true := by decide +kernel
theorem ck_X7_takes : mChk mT RX7 cX7_takes P_X7_takes = true := by decide +kernel
theorem ck_X7_cutIntoTokens : mChk mT RX7 cX7_cutIntoTokens P_X7_cutIntoTokens = true := by decide +kernel
theorem ck_X7_behindBlanks : mChk mT RX7 cX7_behindBlanks P_X7_behindBlanks = true := by decide +kernel
theorem ck_X7_endOfToken : mChk mT RX7 cX7_endOfToken P_X7_endOfToken = true := by decide +kernel
theorem ck_X7_tokenOf : mChk mT RX7 cX7_tokenOf P_X7_tokenOf = true := by decide +kernel
theorem ck_X7_numberOf : mChk mT RX7 cX7_numberOf P_X7_numberOf = true := by decide +kernel
theorem ck_X7_wordOf : mChk mT RX7 cX7_wordOf P_X7_wordOf = true := by decide +kernel
theorem ck_X7_isWord : mChk mT RX7 cX7_isWord P_X7_isWord = true := by decide +kernel
theorem ck_X7_isLetter : mChk mT RX7 cX7_isLetter P_X7_isLetter = true := by decide +kernel
end
section
/-! the code rows hold: by the kernel, some sixty rows at a time -/
theorem ck_X7_isDigit : mChk mT RX7 cX7_isDigit P_X7_isDigit = true := by decide +kernel
theorem ck_X8_forget : mChk mT RX8 cX8_forget P_X8_forget = true := by decide +kernel
theorem ck_X8_add : mChk mT RX8 cX8_add P_X8_add = true := by decide +kernel
theorem ck_X8_pairOf : mChk mT RX8 cX8_pairOf P_X8_pairOf = true := by decide +kernel
theorem ck_X8_whoThrewTwice : mChk mT RX8 cX8_whoThrewTwice P_X8_whoThrewTwice = true := by decide +kernel
theorem ck_X8_falseRounds : mChk mT RX8 cX8_falseRounds P_X8_falseRounds = true := by decide +kernel
theorem ck_X8_isFalse : mChk mT RX8 cX8_isFalse P_X8_isFalse = true := by decide +kernel
theorem ck_X9_type : mChk mT RX9 cX9_type P_X9_type = true := by decide +kernel
theorem ck_X9_clear : mChk mT RX9 cX9_clear P_X9_clear = true := by decide +kernel
theorem ck_X9_gang : mChk mT RX9 cX9_gang P_X9_gang = true := by decide +kernel
theorem ck_X9_digger : mChk mT RX9 cX9_digger P_X9_digger = true := by decide +kernel
theorem ck_X9_spade : mChk mT RX9 cX9_spade P_X9_spade = true := by decide +kernel
theorem ck_X9_yard : mChk mT RX9 cX9_yard P_X9_yard = true := by decide +kernel
theorem ck_X9_may : mChk mT RX9 cX9_may P_X9_may = true := by decide +kernel
theorem ck_X9_throwWith : mChk mT RX9 cX9_throwWith P_X9_throwWith = true := by decide +kernel
theorem ck_X9_ends : mChk mT RX9 cX9_ends P_X9_ends = true := by decide +kernel
theorem ck_X9_breaks : mChk mT RX9 cX9_breaks P_X9_breaks = true := by decide +kernel
theorem ck_X9_now : mChk mT RX9 cX9_now P_X9_now = true := by decide +kernel
theorem ck_X9_anew : mChk mT RX9 cX9_anew P_X9_anew = true := by decide +kernel
theorem ck_X9_longest : mChk mT RX9 cX9_longest P_X9_longest = true := by decide +kernel
theorem ck_X9_begins : mChk mT RX9 cX9_begins P_X9_begins = true := by decide +kernel
theorem ck_X9_most : mChk mT RX9 cX9_most P_X9_most = true := by decide +kernel
theorem ck_X9_rings : mChk mT RX9 cX9_rings P_X9_rings = true := by decide +kernel
theorem ck_X9_meeting_c0 : mChk mT RX9 cX9_meeting P_X9_meeting_c0 = true := by decide +kernel
theorem ck_X9_meeting_c1 : mChk mT RX9 cX9_meeting P_X9_meeting_c1 = true := by decide +kernel
theorem ck_X9_meeting : mChk mT RX9 cX9_meeting P_X9_meeting = true := by
  show (P_X9_meeting_c0 ++ (P_X9_meeting_c1)).all _ = true
  simp only [List.all_append, Bool.and_eq_true]
  exact ⟨ck_X9_meeting_c0, ck_X9_meeting_c1⟩
theorem ck_X9_songs : mChk mT RX9 cX9_songs P_X9_songs = true := by decide +kernel
theorem ck_X9_hole : mChk mT RX9 cX9_hole P_X9_hole = true := by decide +kernel
theorem ck_X9_night : mChk mT RX9 cX9_night P_X9_night = true := by decide +kernel
theorem ck_X9_least : mChk mT RX9 cX9_least P_X9_least = true := by decide +kernel
theorem ck_X9_dry : mChk mT RX9 cX9_dry P_X9_dry = true := by decide +kernel
theorem ck_X9_tell : mChk mT RX9 cX9_tell P_X9_tell = true := by decide +kernel
theorem ck_X9_cheats : mChk mT RX9 cX9_cheats P_X9_cheats = true := by decide +kernel
theorem ck_X9_mark : mChk mT RX9 cX9_mark P_X9_mark = true := by decide +kernel
theorem ck_X9_keep : mChk mT RX9 cX9_keep P_X9_keep = true := by decide +kernel
theorem ck_X9_back : mChk mT RX9 cX9_back P_X9_back = true := by decide +kernel
theorem ck_X9_count : mChk mT RX9 cX9_count P_X9_count = true := by decide +kernel
theorem ck_X9_trace : mChk mT RX9 cX9_trace P_X9_trace = true := by decide +kernel
theorem ck_X9_imageAt : mChk mT RX9 cX9_imageAt P_X9_imageAt = true := by decide +kernel
theorem ck_X9_markAsPerson : mChk mT RX9 cX9_markAsPerson P_X9_markAsPerson = true := by decide +kernel
theorem ck_X9_markAsDigger : mChk mT RX9 cX9_markAsDigger P_X9_markAsDigger = true := by decide +kernel
theorem ck_X9_markAsSinger : mChk mT RX9 cX9_markAsSinger P_X9_markAsSinger = true := by decide +kernel
theorem ck_X9_markAsLeft : mChk mT RX9 cX9_markAsLeft P_X9_markAsLeft = true := by decide +kernel
theorem ck_X9_markAsProphet : mChk mT RX9 cX9_markAsProphet P_X9_markAsProphet = true := by decide +kernel
theorem ck_X9_markAsSlow : mChk mT RX9 cX9_markAsSlow P_X9_markAsSlow = true := by decide +kernel
theorem ck_X9_within : mChk mT RX9 cX9_within P_X9_within = true := by decide +kernel
theorem ck_X9_hasBit : mChk mT RX9 cX9_hasBit P_X9_hasBit = true := by decide +kernel
theorem ck_X9_asNumber : mChk mT RX9 cX9_asNumber P_X9_asNumber = true := by decide +kernel
theorem ck_X9_cell : mChk mT RX9 cX9_cell P_X9_cell = true := by decide +kernel
theorem ck_X9_put : mChk mT RX9 cX9_put P_X9_put = true := by decide +kernel
theorem ck_X9_fill : mChk mT RX9 cX9_fill P_X9_fill = true := by decide +kernel
theorem ck_X9_copy : mChk mT RX9 cX9_copy P_X9_copy = true := by decide +kernel
theorem ck_X9_quotient : mChk mT RX9 cX9_quotient P_X9_quotient = true := by decide +kernel
theorem ck_X9_remainder : mChk mT RX9 cX9_remainder P_X9_remainder = true := by decide +kernel
theorem ck_X10_in : mChk mT RX10 cX10_in P_X10_in = true := by decide +kernel
theorem ck_X10_type : mChk mT RX10 cX10_type P_X10_type = true := by decide +kernel
theorem ck_X10_clear : mChk mT RX10 cX10_clear P_X10_clear = true := by decide +kernel
theorem ck_X10_here : mChk mT RX10 cX10_here P_X10_here = true := by decide +kernel
theorem ck_X10_meaning : mChk mT RX10 cX10_meaning P_X10_meaning = true := by decide +kernel
theorem ck_X10_next_c0 : mChk mT RX10 cX10_next P_X10_next_c0 = true := by decide +kernel
theorem ck_X10_next_c1 : mChk mT RX10 cX10_next P_X10_next_c1 = true := by decide +kernel
theorem ck_X10_next_c2 : mChk mT RX10 cX10_next P_X10_next_c2 = true := by decide +kernel
theorem ck_X10_next : mChk mT RX10 cX10_next P_X10_next = true := by
  show (P_X10_next_c0 ++ (P_X10_next_c1 ++ (P_X10_next_c2))).all _ = true
  simp only [List.all_append, Bool.and_eq_true]
  exact ⟨ck_X10_next_c0, ck_X10_next_c1, ck_X10_next_c2⟩
theorem ck_X10_due : mChk mT RX10 cX10_due P_X10_due = true := by decide +kernel
theorem ck_X10_number : mChk mT RX10 cX10_number P_X10_number = true := by decide +kernel
theorem ck_X10_side : mChk mT RX10 cX10_side P_X10_side = true := by decide +kernel
theorem ck_X10_readItem_c0 : mChk mT RX10 cX10_readItem P_X10_readItem_c0 = true := by decide +kernel
theorem ck_X10_readItem_c1 : mChk mT RX10 cX10_readItem P_X10_readItem_c1 = true := by decide +kernel
theorem ck_X10_readItem_c2 : mChk mT RX10 cX10_readItem P_X10_readItem_c2 = true := by decide +kernel
theorem ck_X10_readItem : mChk mT RX10 cX10_readItem P_X10_readItem = true := by
  show (P_X10_readItem_c0 ++ (P_X10_readItem_c1 ++ (P_X10_readItem_c2))).all _ = true
  simp only [List.all_append, Bool.and_eq_true]
  exact ⟨ck_X10_readItem_c0, ck_X10_readItem_c1, ck_X10_readItem_c2⟩
theorem ck_X10_gang_c0 : mChk mT RX10 cX10_gang P_X10_gang_c0 = true := by decide +kernel
theorem ck_X10_gang_c1 : mChk mT RX10 cX10_gang P_X10_gang_c1 = true := by decide +kernel
theorem ck_X10_gang_c2 : mChk mT RX10 cX10_gang P_X10_gang_c2 = true := by decide +kernel
theorem ck_X10_gang : mChk mT RX10 cX10_gang P_X10_gang = true := by
  show (P_X10_gang_c0 ++ (P_X10_gang_c1 ++ (P_X10_gang_c2))).all _ = true
  simp only [List.all_append, Bool.and_eq_true]
  exact ⟨ck_X10_gang_c0, ck_X10_gang_c1, ck_X10_gang_c2⟩
theorem ck_X10_isDigger : mChk mT RX10 cX10_isDigger P_X10_isDigger = true := by decide +kernel
theorem ck_X10_isSpade : mChk mT RX10 cX10_isSpade P_X10_isSpade = true := by decide +kernel
theorem ck_X10_bitsIn : mChk mT RX10 cX10_bitsIn P_X10_bitsIn = true := by decide +kernel
theorem ck_X10_digger : mChk mT RX10 cX10_digger P_X10_digger = true := by decide +kernel
theorem ck_X10_spade : mChk mT RX10 cX10_spade P_X10_spade = true := by decide +kernel
theorem ck_X10_yard : mChk mT RX10 cX10_yard P_X10_yard = true := by decide +kernel
theorem ck_X10_mayNow : mChk mT RX10 cX10_mayNow P_X10_mayNow = true := by decide +kernel
theorem ck_X10_may : mChk mT RX10 cX10_may P_X10_may = true := by decide +kernel
theorem ck_X10_yardNow : mChk mT RX10 cX10_yardNow P_X10_yardNow = true := by decide +kernel
theorem ck_X10_throwWith_c0 : mChk mT RX10 cX10_throwWith P_X10_throwWith_c0 = true := by decide +kernel
end
section
/-! the code rows hold: by the kernel, some sixty rows at a time -/
theorem ck_X10_throwWith_c1 : mChk mT RX10 cX10_throwWith P_X10_throwWith_c1 = true := by decide +kernel
theorem ck_X10_throwWith_c2 : mChk mT RX10 cX10_throwWith P_X10_throwWith_c2 = true := by decide +kernel
theorem ck_X10_throwWith : mChk mT RX10 cX10_throwWith P_X10_throwWith = true := by
  show (P_X10_throwWith_c0 ++ (P_X10_throwWith_c1 ++ (P_X10_throwWith_c2))).all _ = true
  simp only [List.all_append, Bool.and_eq_true]
  exact ⟨ck_X10_throwWith_c0, ck_X10_throwWith_c1, ck_X10_throwWith_c2⟩
theorem ck_X10_ends_c0 : mChk mT RX10 cX10_ends P_X10_ends_c0 = true := by decide +kernel
theorem ck_X10_ends_c1 : mChk mT RX10 cX10_ends P_X10_ends_c1 = true := by decide +kernel
theorem ck_X10_ends : mChk mT RX10 cX10_ends P_X10_ends = true := by
  show (P_X10_ends_c0 ++ (P_X10_ends_c1)).all _ = true
  simp only [List.all_append, Bool.and_eq_true]
  exact ⟨ck_X10_ends_c0, ck_X10_ends_c1⟩
theorem ck_X10_breaks : mChk mT RX10 cX10_breaks P_X10_breaks = true := by decide +kernel
theorem ck_X10_now : mChk mT RX10 cX10_now P_X10_now = true := by decide +kernel
theorem ck_X10_anew : mChk mT RX10 cX10_anew P_X10_anew = true := by decide +kernel
theorem ck_X10_findEdges : mChk mT RX10 cX10_findEdges P_X10_findEdges = true := by decide +kernel
theorem ck_X10_begin : mChk mT RX10 cX10_begin P_X10_begin = true := by decide +kernel
theorem ck_X10_weight : mChk mT RX10 cX10_weight P_X10_weight = true := by decide +kernel
theorem ck_X10_findWays_c0 : mChk mT RX10 cX10_findWays P_X10_findWays_c0 = true := by decide +kernel
theorem ck_X10_findWays_c1 : mChk mT RX10 cX10_findWays P_X10_findWays_c1 = true := by decide +kernel
theorem ck_X10_findWays_c2 : mChk mT RX10 cX10_findWays P_X10_findWays_c2 = true := by decide +kernel
theorem ck_X10_findWays : mChk mT RX10 cX10_findWays P_X10_findWays = true := by
  show (P_X10_findWays_c0 ++ (P_X10_findWays_c1 ++ (P_X10_findWays_c2))).all _ = true
  simp only [List.all_append, Bool.and_eq_true]
  exact ⟨ck_X10_findWays_c0, ck_X10_findWays_c1, ck_X10_findWays_c2⟩
theorem ck_X10_augment_c0 : mChk mT RX10 cX10_augment P_X10_augment_c0 = true := by decide +kernel
theorem ck_X10_augment_c1 : mChk mT RX10 cX10_augment P_X10_augment_c1 = true := by decide +kernel
theorem ck_X10_augment : mChk mT RX10 cX10_augment P_X10_augment = true := by
  show (P_X10_augment_c0 ++ (P_X10_augment_c1)).all _ = true
  simp only [List.all_append, Bool.and_eq_true]
  exact ⟨ck_X10_augment_c0, ck_X10_augment_c1⟩
theorem ck_X10_isLong : mChk mT RX10 cX10_isLong P_X10_isLong = true := by decide +kernel
theorem ck_X10_longestBy : mChk mT RX10 cX10_longestBy P_X10_longestBy = true := by decide +kernel
theorem ck_X10_longest : mChk mT RX10 cX10_longest P_X10_longest = true := by decide +kernel
theorem ck_X10_isUsed : mChk mT RX10 cX10_isUsed P_X10_isUsed = true := by decide +kernel
theorem ck_X10_leaves : mChk mT RX10 cX10_leaves P_X10_leaves = true := by decide +kernel
theorem ck_X10_begins_c0 : mChk mT RX10 cX10_begins P_X10_begins_c0 = true := by decide +kernel
theorem ck_X10_begins_c1 : mChk mT RX10 cX10_begins P_X10_begins_c1 = true := by decide +kernel
theorem ck_X10_begins : mChk mT RX10 cX10_begins P_X10_begins = true := by
  show (P_X10_begins_c0 ++ (P_X10_begins_c1)).all _ = true
  simp only [List.all_append, Bool.and_eq_true]
  exact ⟨ck_X10_begins_c0, ck_X10_begins_c1⟩
theorem ck_X10_most : mChk mT RX10 cX10_most P_X10_most = true := by decide +kernel
theorem ck_X10_dugBy_c0 : mChk mT RX10 cX10_dugBy P_X10_dugBy_c0 = true := by decide +kernel
theorem ck_X10_dugBy_c1 : mChk mT RX10 cX10_dugBy P_X10_dugBy_c1 = true := by decide +kernel
theorem ck_X10_dugBy : mChk mT RX10 cX10_dugBy P_X10_dugBy = true := by
  show (P_X10_dugBy_c0 ++ (P_X10_dugBy_c1)).all _ = true
  simp only [List.all_append, Bool.and_eq_true]
  exact ⟨ck_X10_dugBy_c0, ck_X10_dugBy_c1⟩
theorem ck_X10_part_c0 : mChk mT RX10 cX10_part P_X10_part_c0 = true := by decide +kernel
theorem ck_X10_part_c1 : mChk mT RX10 cX10_part P_X10_part_c1 = true := by decide +kernel
theorem ck_X10_part : mChk mT RX10 cX10_part P_X10_part = true := by
  show (P_X10_part_c0 ++ (P_X10_part_c1)).all _ = true
  simp only [List.all_append, Bool.and_eq_true]
  exact ⟨ck_X10_part_c0, ck_X10_part_c1⟩
theorem ck_X10_isAhead : mChk mT RX10 cX10_isAhead P_X10_isAhead = true := by decide +kernel
theorem ck_X10_rings_c0 : mChk mT RX10 cX10_rings P_X10_rings_c0 = true := by decide +kernel
theorem ck_X10_rings_c1 : mChk mT RX10 cX10_rings P_X10_rings_c1 = true := by decide +kernel
theorem ck_X10_rings : mChk mT RX10 cX10_rings P_X10_rings = true := by
  show (P_X10_rings_c0 ++ (P_X10_rings_c1)).all _ = true
  simp only [List.all_append, Bool.and_eq_true]
  exact ⟨ck_X10_rings_c0, ck_X10_rings_c1⟩
theorem ck_X10_stroke_c0 : mChk mT RX10 cX10_stroke P_X10_stroke_c0 = true := by decide +kernel
theorem ck_X10_stroke_c1 : mChk mT RX10 cX10_stroke P_X10_stroke_c1 = true := by decide +kernel
theorem ck_X10_stroke : mChk mT RX10 cX10_stroke P_X10_stroke = true := by
  show (P_X10_stroke_c0 ++ (P_X10_stroke_c1)).all _ = true
  simp only [List.all_append, Bool.and_eq_true]
  exact ⟨ck_X10_stroke_c0, ck_X10_stroke_c1⟩
theorem ck_X10_allLeft : mChk mT RX10 cX10_allLeft P_X10_allLeft = true := by decide +kernel
theorem ck_X10_meeting_c0 : mChk mT RX10 cX10_meeting P_X10_meeting_c0 = true := by decide +kernel
theorem ck_X10_meeting_c1 : mChk mT RX10 cX10_meeting P_X10_meeting_c1 = true := by decide +kernel
theorem ck_X10_meeting : mChk mT RX10 cX10_meeting P_X10_meeting = true := by
  show (P_X10_meeting_c0 ++ (P_X10_meeting_c1)).all _ = true
  simp only [List.all_append, Bool.and_eq_true]
  exact ⟨ck_X10_meeting_c0, ck_X10_meeting_c1⟩
theorem ck_X10_songs : mChk mT RX10 cX10_songs P_X10_songs = true := by decide +kernel
theorem ck_X10_hole : mChk mT RX10 cX10_hole P_X10_hole = true := by decide +kernel
theorem ck_X10_nextHole : mChk mT RX10 cX10_nextHole P_X10_nextHole = true := by decide +kernel
theorem ck_X10_isClosed_c0 : mChk mT RX10 cX10_isClosed P_X10_isClosed_c0 = true := by decide +kernel
theorem ck_X10_isClosed_c1 : mChk mT RX10 cX10_isClosed P_X10_isClosed_c1 = true := by decide +kernel
theorem ck_X10_isClosed : mChk mT RX10 cX10_isClosed P_X10_isClosed = true := by
  show (P_X10_isClosed_c0 ++ (P_X10_isClosed_c1)).all _ = true
  simp only [List.all_append, Bool.and_eq_true]
  exact ⟨ck_X10_isClosed_c0, ck_X10_isClosed_c1⟩
theorem ck_X10_night : mChk mT RX10 cX10_night P_X10_night = true := by decide +kernel
theorem ck_X10_least : mChk mT RX10 cX10_least P_X10_least = true := by decide +kernel
theorem ck_X10_dry : mChk mT RX10 cX10_dry P_X10_dry = true := by decide +kernel
theorem ck_X10_tell : mChk mT RX10 cX10_tell P_X10_tell = true := by decide +kernel
theorem ck_X10_isFalse_c0 : mChk mT RX10 cX10_isFalse P_X10_isFalse_c0 = true := by decide +kernel
theorem ck_X10_isFalse_c1 : mChk mT RX10 cX10_isFalse P_X10_isFalse_c1 = true := by decide +kernel
theorem ck_X10_isFalse : mChk mT RX10 cX10_isFalse P_X10_isFalse = true := by
  show (P_X10_isFalse_c0 ++ (P_X10_isFalse_c1)).all _ = true
  simp only [List.all_append, Bool.and_eq_true]
  exact ⟨ck_X10_isFalse_c0, ck_X10_isFalse_c1⟩
theorem ck_X10_cheats_c0 : mChk mT RX10 cX10_cheats P_X10_cheats_c0 = true := by decide +kernel
theorem ck_X10_cheats_c1 : mChk mT RX10 cX10_cheats P_X10_cheats_c1 = true := by decide +kernel
theorem ck_X10_cheats : mChk mT RX10 cX10_cheats P_X10_cheats = true := by
  show (P_X10_cheats_c0 ++ (P_X10_cheats_c1)).all _ = true
  simp only [List.all_append, Bool.and_eq_true]
  exact ⟨ck_X10_cheats_c0, ck_X10_cheats_c1⟩
theorem ck_X10_mark_c0 : mChk mT RX10 cX10_mark P_X10_mark_c0 = true := by decide +kernel
theorem ck_X10_mark_c1 : mChk mT RX10 cX10_mark P_X10_mark_c1 = true := by decide +kernel
theorem ck_X10_mark : mChk mT RX10 cX10_mark P_X10_mark = true := by
  show (P_X10_mark_c0 ++ (P_X10_mark_c1)).all _ = true
  simp only [List.all_append, Bool.and_eq_true]
  exact ⟨ck_X10_mark_c0, ck_X10_mark_c1⟩
theorem ck_X10_copy : mChk mT RX10 cX10_copy P_X10_copy = true := by decide +kernel
theorem ck_X10_keep : mChk mT RX10 cX10_keep P_X10_keep = true := by decide +kernel
theorem ck_X10_back : mChk mT RX10 cX10_back P_X10_back = true := by decide +kernel
theorem ck_X10_count : mChk mT RX10 cX10_count P_X10_count = true := by decide +kernel
theorem ck_X10_trace : mChk mT RX10 cX10_trace P_X10_trace = true := by decide +kernel
theorem ck_L_law_c0 : mChk mT RL cL_law P_L_law_c0 = true := by decide +kernel
theorem ck_L_law_c1 : mChk mT RL cL_law P_L_law_c1 = true := by decide +kernel
theorem ck_L_law_c2 : mChk mT RL cL_law P_L_law_c2 = true := by decide +kernel
theorem ck_L_law_c3 : mChk mT RL cL_law P_L_law_c3 = true := by decide +kernel
theorem ck_L_law_c4 : mChk mT RL cL_law P_L_law_c4 = true := by decide +kernel
theorem ck_L_law_c5 : mChk mT RL cL_law P_L_law_c5 = true := by decide +kernel
theorem ck_L_law_c6 : mChk mT RL cL_law P_L_law_c6 = true := by decide +kernel
theorem ck_L_law_c7 : mChk mT RL cL_law P_L_law_c7 = true := by decide +kernel
theorem ck_L_law_c8 : mChk mT RL cL_law P_L_law_c8 = true := by decide +kernel
theorem ck_L_law_c9 : mChk mT RL cL_law P_L_law_c9 = true := by decide +kernel
theorem ck_L_law_c10 : mChk mT RL cL_law P_L_law_c10 = true := by decide +kernel
theorem ck_L_law_c11 : mChk mT RL cL_law P_L_law_c11 = true := by decide +kernel
theorem ck_L_law : mChk mT RL cL_law P_L_law = true := by
  show (P_L_law_c0 ++ (P_L_law_c1 ++ (P_L_law_c2 ++ (P_L_law_c3 ++ (P_L_law_c4 ++ (P_L_law_c5 ++ (P_L_law_c6 ++ (P_L_law_c7 ++ (P_L_law_c8 ++ (P_L_law_c9 ++ (P_L_law_c10 ++ (P_L_law_c11)))))))))))).all _ = true
  simp only [List.all_append, Bool.and_eq_true]
  exact ⟨ck_L_law_c0, ck_L_law_c1, ck_L_law_c2, ck_L_law_c3, ck_L_law_c4, ck_L_law_c5, ck_L_law_c6, ck_L_law_c7, ck_L_law_c8, ck_L_law_c9, ck_L_law_c10, ck_L_law_c11⟩
end
section
/-! the code words of the methods, by their places -/
theorem lw_m1 {w : Jvm.Cond} (h : w ∈ tables_1_1) : w ∈ lw_tbl := by
  have h1 : w ∈ tables_1 := by
    unfold tables_1
    simp only [List.mem_append]
    simp only [h, true_or, or_true]
  exact List.mem_append_right _ h1
theorem lw_m2 {w : Jvm.Cond} (h : w ∈ tables_1_2) : w ∈ lw_tbl := by
  have h1 : w ∈ tables_1 := by
    unfold tables_1
    simp only [List.mem_append]
    simp only [h, true_or, or_true]
  exact List.mem_append_right _ h1
theorem lw_m3 {w : Jvm.Cond} (h : w ∈ tables_1_3) : w ∈ lw_tbl := by
  have h1 : w ∈ tables_1 := by
    unfold tables_1
    simp only [List.mem_append]
    simp only [h, true_or, or_true]
  exact List.mem_append_right _ h1
theorem lw_m4 {w : Jvm.Cond} (h : w ∈ tables_1_4) : w ∈ lw_tbl := by
  have h1 : w ∈ tables_1 := by
    unfold tables_1
    simp only [List.mem_append]
    simp only [h, true_or, or_true]
  exact List.mem_append_right _ h1
theorem lw_m5 {w : Jvm.Cond} (h : w ∈ tables_1_5) : w ∈ lw_tbl := by
  have h1 : w ∈ tables_1 := by
    unfold tables_1
    simp only [List.mem_append]
    simp only [h, true_or, or_true]
  exact List.mem_append_right _ h1
theorem lw_m6 {w : Jvm.Cond} (h : w ∈ tables_1_6) : w ∈ lw_tbl := by
  have h1 : w ∈ tables_1 := by
    unfold tables_1
    simp only [List.mem_append]
    simp only [h, true_or, or_true]
  exact List.mem_append_right _ h1
theorem cw_J6_bitCount_0f7a4 : Cond.code yJ6_bitCount_0f7a4 cJ6_bitCount_0f7a4 1 (some .int) ∈ lw_tbl := lw_m3 (List.mem_of_getElem? (i := 181) rfl)
theorem cw_J13_bitCount_95d88 : Cond.code yJ13_bitCount_95d88 cJ13_bitCount_95d88 2 (some .int) ∈ lw_tbl := lw_m4 (List.mem_of_getElem? (i := 143) rfl)
theorem cw_J9_floorMod_7cf53 : Cond.code yJ9_floorMod_7cf53 cJ9_floorMod_7cf53 3 (some .int) ∈ lw_tbl := lw_m4 (List.mem_of_getElem? (i := 76) rfl)
theorem cw_J9_max_7cf53 : Cond.code yJ9_max_7cf53 cJ9_max_7cf53 2 (some .int) ∈ lw_tbl := lw_m3 (List.mem_of_getElem? (i := 123) rfl)
theorem cw_J9_min_7cf53 : Cond.code yJ9_min_7cf53 cJ9_min_7cf53 2 (some .int) ∈ lw_tbl := lw_m3 (List.mem_of_getElem? (i := 135) rfl)
theorem cw_J0_length_8abf5 : Cond.code yJ0_length_8abf5 cJ0_length_8abf5 1 (some .int) ∈ lw_tbl := lw_m2 (List.mem_of_getElem? (i := 182) rfl)
theorem cw_J0_coder_7d493 : Cond.code yJ0_coder_7d493 cJ0_coder_7d493 1 (some .byte) ∈ lw_tbl := lw_m2 (List.mem_of_getElem? (i := 186) rfl)
theorem cw_J0_charAt_5068e : Cond.code yJ0_charAt_5068e cJ0_charAt_5068e 2 (some .char) ∈ lw_tbl := lw_m2 (List.mem_of_getElem? (i := 192) rfl)
theorem cw_J0_isLatin1_aae02 : Cond.code yJ0_isLatin1_aae02 cJ0_isLatin1_aae02 1 (some .boolean) ∈ lw_tbl := lw_m2 (List.mem_of_getElem? (i := 196) rfl)
theorem cw_J0_checkIndex_df160 : Cond.code yJ0_checkIndex_df160 cJ0_checkIndex_df160 2 none ∈ lw_tbl := lw_m2 (List.mem_of_getElem? (i := 202) rfl)
theorem cw_J1_charAt_3b067 : Cond.code yJ1_charAt_3b067 cJ1_charAt_3b067 2 (some .char) ∈ lw_tbl := lw_m2 (List.mem_of_getElem? (i := 199) rfl)
theorem cw_J3_checkIndex_8e157 : Cond.code yJ3_checkIndex_8e157 cJ3_checkIndex_8e157 3 (some .int) ∈ lw_tbl := lw_m2 (List.mem_of_getElem? (i := 207) rfl)
theorem cw_X0_work : Cond.code yX0_work cX0_work 5 none ∈ lw_tbl := lw_m3 (List.mem_of_getElem? (i := 163) rfl)
theorem cw_X0_look : Cond.code yX0_look cX0_look 8 (some .long) ∈ lw_tbl := lw_m3 (List.mem_of_getElem? (i := 167) rfl)
theorem cw_X0_findRounds : Cond.code yX0_findRounds cX0_findRounds 3 (some .int) ∈ lw_tbl := lw_m3 (List.mem_of_getElem? (i := 174) rfl)
theorem cw_X0_fits : Cond.code yX0_fits cX0_fits 6 (some .boolean) ∈ lw_tbl := lw_m3 (List.mem_of_getElem? (i := 178) rfl)
theorem cw_X0_bearable : Cond.code yX0_bearable cX0_bearable 7 (some .int) ∈ lw_tbl := lw_m3 (List.mem_of_getElem? (i := 188) rfl)
theorem cw_X0_place : Cond.code yX0_place cX0_place 4 (some .boolean) ∈ lw_tbl := lw_m3 (List.mem_of_getElem? (i := 192) rfl)
theorem cw_X0_placeWith : Cond.code yX0_placeWith cX0_placeWith 5 (some .boolean) ∈ lw_tbl := lw_m3 (List.mem_of_getElem? (i := 197) rfl)
theorem cw_X1_empty : Cond.code yX1_empty cX1_empty 1 none ∈ lw_tbl := lw_m2 (List.mem_of_getElem? (i := 234) rfl)
theorem cw_X1_hasDigger : Cond.code yX1_hasDigger cX1_hasDigger 2 (some .boolean) ∈ lw_tbl := lw_m3 (List.mem_of_getElem? (i := 63) rfl)
theorem cw_X1_hasSpade : Cond.code yX1_hasSpade cX1_hasSpade 2 (some .boolean) ∈ lw_tbl := lw_m3 (List.mem_of_getElem? (i := 72) rfl)
theorem cw_X1_hasYard : Cond.code yX1_hasYard cX1_hasYard 2 (some .boolean) ∈ lw_tbl := lw_m3 (List.mem_of_getElem? (i := 84) rfl)
theorem cw_X1_addDigger : Cond.code yX1_addDigger cX1_addDigger 4 none ∈ lw_tbl := lw_m3 (List.mem_of_getElem? (i := 23) rfl)
theorem cw_X1_addSpade : Cond.code yX1_addSpade cX1_addSpade 3 none ∈ lw_tbl := lw_m3 (List.mem_of_getElem? (i := 35) rfl)
theorem cw_X1_addYard : Cond.code yX1_addYard cX1_addYard 3 none ∈ lw_tbl := lw_m3 (List.mem_of_getElem? (i := 43) rfl)
theorem cw_X1_suits : Cond.code yX1_suits cX1_suits 4 (some .boolean) ∈ lw_tbl := lw_m3 (List.mem_of_getElem? (i := 96) rfl)
theorem cw_X1_product : Cond.code yX1_product cX1_product 3 (some .int) ∈ lw_tbl := lw_m3 (List.mem_of_getElem? (i := 117) rfl)
theorem cw_X1_clodsOf : Cond.code yX1_clodsOf cX1_clodsOf 2 (some .int) ∈ lw_tbl := lw_m4 (List.mem_of_getElem? (i := 51) rfl)
theorem cw_X1_allClods : Cond.code yX1_allClods cX1_allClods 3 (some .int) ∈ lw_tbl := lw_m4 (List.mem_of_getElem? (i := 47) rfl)
theorem cw_X1_yardOfClod : Cond.code yX1_yardOfClod cX1_yardOfClod 4 (some .int) ∈ lw_tbl := lw_m4 (List.mem_of_getElem? (i := 68) rfl)
theorem cw_X2_greatest : Cond.code yX2_greatest cX2_greatest 7 (some .int) ∈ lw_tbl := lw_m3 (List.mem_of_getElem? (i := 211) rfl)
theorem cw_X2_look : Cond.code yX2_look cX2_look 6 none ∈ lw_tbl := lw_m3 (List.mem_of_getElem? (i := 215) rfl)
theorem cw_X2_findChains : Cond.code yX2_findChains cX2_findChains 5 none ∈ lw_tbl := lw_m3 (List.mem_of_getElem? (i := 222) rfl)
theorem cw_X2_lengthenBy : Cond.code yX2_lengthenBy cX2_lengthenBy 5 (some .boolean) ∈ lw_tbl := lw_m3 (List.mem_of_getElem? (i := 230) rfl)
theorem cw_X2_lengthenToSpade : Cond.code yX2_lengthenToSpade cX2_lengthenToSpade 5 (some .boolean) ∈ lw_tbl := lw_m4 (List.mem_of_getElem? (i := 0) rfl)
theorem cw_X2_lengthenToDigger : Cond.code yX2_lengthenToDigger cX2_lengthenToDigger 5 (some .boolean) ∈ lw_tbl := lw_m3 (List.mem_of_getElem? (i := 236) rfl)
theorem cw_X2_bestLastSpade : Cond.code yX2_bestLastSpade cX2_bestLastSpade 4 (some .int) ∈ lw_tbl := lw_m4 (List.mem_of_getElem? (i := 4) rfl)
theorem cw_X2_follow : Cond.code yX2_follow cX2_follow 7 none ∈ lw_tbl := lw_m4 (List.mem_of_getElem? (i := 8) rfl)
theorem cw_X3_add : Cond.code yX3_add cX3_add 4 (some .boolean) ∈ lw_tbl := lw_m4 (List.mem_of_getElem? (i := 85) rfl)
theorem cw_X3_leastClods : Cond.code yX3_leastClods cX3_leastClods 4 (some .int) ∈ lw_tbl := lw_m4 (List.mem_of_getElem? (i := 94) rfl)
theorem cw_X3_neededWithin : Cond.code yX3_neededWithin cX3_neededWithin 5 (some .int) ∈ lw_tbl := lw_m4 (List.mem_of_getElem? (i := 99) rfl)
theorem cw_X4_hold : Cond.code yX4_hold cX4_hold 11 none ∈ lw_tbl := lw_m4 (List.mem_of_getElem? (i := 43) rfl)
theorem cw_X4_firstBeatWith : Cond.code yX4_firstBeatWith cX4_firstBeatWith 6 (some .int) ∈ lw_tbl := lw_m4 (List.mem_of_getElem? (i := 55) rfl)
theorem cw_X4_dugBy : Cond.code yX4_dugBy cX4_dugBy 2 (some .int) ∈ lw_tbl := lw_m4 (List.mem_of_getElem? (i := 60) rfl)
theorem cw_X5_reset : Cond.code yX5_reset cX5_reset 1 none ∈ lw_tbl := lw_m3 (List.mem_of_getElem? (i := 47) rfl)
theorem cw_X5_copyFrom : Cond.code yX5_copyFrom cX5_copyFrom 2 none ∈ lw_tbl := lw_m4 (List.mem_of_getElem? (i := 194) rfl)
theorem cw_X5_allows : Cond.code yX5_allows cX5_allows 4 (some .boolean) ∈ lw_tbl := lw_m3 (List.mem_of_getElem? (i := 92) rfl)
theorem cw_X5_canThrow : Cond.code yX5_canThrow cX5_canThrow 4 (some .boolean) ∈ lw_tbl := lw_m3 (List.mem_of_getElem? (i := 107) rfl)
theorem cw_X5_earthOf : Cond.code yX5_earthOf cX5_earthOf 5 (some .int) ∈ lw_tbl := lw_m3 (List.mem_of_getElem? (i := 112) rfl)
theorem cw_X5_noteThrow : Cond.code yX5_noteThrow cX5_noteThrow 3 none ∈ lw_tbl := lw_m3 (List.mem_of_getElem? (i := 127) rfl)
theorem cw_X5_dig : Cond.code yX5_dig cX5_dig 5 none ∈ lw_tbl := lw_m3 (List.mem_of_getElem? (i := 132) rfl)
theorem cw_X5_endRound : Cond.code yX5_endRound cX5_endRound 4 (some .int) ∈ lw_tbl := lw_m3 (List.mem_of_getElem? (i := 143) rfl)
theorem cw_X6_part : Cond.code yX6_part cX6_part 7 none ∈ lw_tbl := lw_m4 (List.mem_of_getElem? (i := 16) rfl)
theorem cw_X6_partRest : Cond.code yX6_partRest cX6_partRest 5 none ∈ lw_tbl := lw_m4 (List.mem_of_getElem? (i := 31) rfl)
theorem cw_X6_offer : Cond.code yX6_offer cX6_offer 5 none ∈ lw_tbl := lw_m4 (List.mem_of_getElem? (i := 27) rfl)
theorem cw_X6_weigh : Cond.code yX6_weigh cX6_weigh 6 (some .int) ∈ lw_tbl := lw_m4 (List.mem_of_getElem? (i := 19) rfl)
theorem cw_X6_ringOf : Cond.code yX6_ringOf cX6_ringOf 2 (some .int) ∈ lw_tbl := lw_m4 (List.mem_of_getElem? (i := 35) rfl)
theorem cw_X7_hasRoomFor : Cond.code yX7_hasRoomFor cX7_hasRoomFor 2 (some .boolean) ∈ lw_tbl := lw_m2 (List.mem_of_getElem? (i := 117) rfl)
theorem cw_X7_append : Cond.code yX7_append cX7_append 5 none ∈ lw_tbl := lw_m2 (List.mem_of_getElem? (i := 121) rfl)
theorem cw_X7_wipe : Cond.code yX7_wipe cX7_wipe 2 (some .int) ∈ lw_tbl := lw_m2 (List.mem_of_getElem? (i := 132) rfl)
theorem cw_X7_readInto : Cond.code yX7_readInto cX7_readInto 3 (some .int) ∈ lw_tbl := lw_m2 (List.mem_of_getElem? (i := 140) rfl)
theorem cw_X7_readItem : Cond.code yX7_readItem cX7_readItem 2 none ∈ lw_tbl := lw_m2 (List.mem_of_getElem? (i := 238) rfl)
theorem cw_X7_readDigger : Cond.code yX7_readDigger cX7_readDigger 5 none ∈ lw_tbl := lw_m3 (List.mem_of_getElem? (i := 2) rfl)
theorem cw_X7_readSpade : Cond.code yX7_readSpade cX7_readSpade 4 none ∈ lw_tbl := lw_m3 (List.mem_of_getElem? (i := 31) rfl)
theorem cw_X7_readYard : Cond.code yX7_readYard cX7_readYard 4 none ∈ lw_tbl := lw_m3 (List.mem_of_getElem? (i := 39) rfl)
theorem cw_X7_takeWord : Cond.code yX7_takeWord cX7_takeWord 2 none ∈ lw_tbl := lw_m3 (List.mem_of_getElem? (i := 6) rfl)
theorem cw_X7_takeNumber : Cond.code yX7_takeNumber cX7_takeNumber 3 (some .int) ∈ lw_tbl := lw_m3 (List.mem_of_getElem? (i := 10) rfl)
theorem cw_X7_takeSemicolon : Cond.code yX7_takeSemicolon cX7_takeSemicolon 1 none ∈ lw_tbl := lw_m3 (List.mem_of_getElem? (i := 19) rfl)
theorem cw_X7_takes : Cond.code yX7_takes cX7_takes 2 (some .boolean) ∈ lw_tbl := lw_m3 (List.mem_of_getElem? (i := 15) rfl)
theorem cw_X7_cutIntoTokens : Cond.code yX7_cutIntoTokens cX7_cutIntoTokens 4 none ∈ lw_tbl := lw_m2 (List.mem_of_getElem? (i := 144) rfl)
theorem cw_X7_behindBlanks : Cond.code yX7_behindBlanks cX7_behindBlanks 3 (some .int) ∈ lw_tbl := lw_m2 (List.mem_of_getElem? (i := 148) rfl)
theorem cw_X7_endOfToken : Cond.code yX7_endOfToken cX7_endOfToken 3 (some .int) ∈ lw_tbl := lw_m2 (List.mem_of_getElem? (i := 155) rfl)
theorem cw_X7_tokenOf : Cond.code yX7_tokenOf cX7_tokenOf 4 (some .int) ∈ lw_tbl := lw_m2 (List.mem_of_getElem? (i := 165) rfl)
theorem cw_X7_numberOf : Cond.code yX7_numberOf cX7_numberOf 5 (some .int) ∈ lw_tbl := lw_m2 (List.mem_of_getElem? (i := 169) rfl)
theorem cw_X7_wordOf : Cond.code yX7_wordOf cX7_wordOf 3 (some .int) ∈ lw_tbl := lw_m2 (List.mem_of_getElem? (i := 173) rfl)
theorem cw_X7_isWord : Cond.code yX7_isWord cX7_isWord 5 (some .boolean) ∈ lw_tbl := lw_m2 (List.mem_of_getElem? (i := 178) rfl)
theorem cw_X7_isLetter : Cond.code yX7_isLetter cX7_isLetter 1 (some .boolean) ∈ lw_tbl := lw_m2 (List.mem_of_getElem? (i := 158) rfl)
theorem cw_X7_isDigit : Cond.code yX7_isDigit cX7_isDigit 1 (some .boolean) ∈ lw_tbl := lw_m2 (List.mem_of_getElem? (i := 161) rfl)
theorem cw_X8_forget : Cond.code yX8_forget cX8_forget 1 none ∈ lw_tbl := lw_m3 (List.mem_of_getElem? (i := 54) rfl)
theorem cw_X8_add : Cond.code yX8_add cX8_add 4 (some .boolean) ∈ lw_tbl := lw_m4 (List.mem_of_getElem? (i := 118) rfl)
theorem cw_X8_pairOf : Cond.code yX8_pairOf cX8_pairOf 2 (some .long) ∈ lw_tbl := lw_m4 (List.mem_of_getElem? (i := 131) rfl)
theorem cw_X8_whoThrewTwice : Cond.code yX8_whoThrewTwice cX8_whoThrewTwice 5 (some .int) ∈ lw_tbl := lw_m4 (List.mem_of_getElem? (i := 127) rfl)
theorem cw_X8_falseRounds : Cond.code yX8_falseRounds cX8_falseRounds 3 (some .int) ∈ lw_tbl := lw_m4 (List.mem_of_getElem? (i := 136) rfl)
theorem cw_X8_isFalse : Cond.code yX8_isFalse cX8_isFalse 7 (some .boolean) ∈ lw_tbl := lw_m4 (List.mem_of_getElem? (i := 140) rfl)
theorem cw_X9_type : Cond.code yX9_type cX9_type 4 (some .int) ∈ lw_tbl := lw_m2 (List.mem_of_getElem? (i := 110) rfl)
theorem cw_X9_clear : Cond.code yX9_clear cX9_clear 1 (some .int) ∈ lw_tbl := lw_m2 (List.mem_of_getElem? (i := 128) rfl)
theorem cw_X9_gang : Cond.code yX9_gang cX9_gang 3 (some .int) ∈ lw_tbl := lw_m2 (List.mem_of_getElem? (i := 136) rfl)
theorem cw_X9_digger : Cond.code yX9_digger cX9_digger 3 (some .int) ∈ lw_tbl := lw_m3 (List.mem_of_getElem? (i := 59) rfl)
theorem cw_X9_spade : Cond.code yX9_spade cX9_spade 3 (some .int) ∈ lw_tbl := lw_m3 (List.mem_of_getElem? (i := 68) rfl)
theorem cw_X9_yard : Cond.code yX9_yard cX9_yard 3 (some .int) ∈ lw_tbl := lw_m3 (List.mem_of_getElem? (i := 80) rfl)
theorem cw_X9_may : Cond.code yX9_may cX9_may 3 (some .int) ∈ lw_tbl := lw_m3 (List.mem_of_getElem? (i := 88) rfl)
theorem cw_X9_throwWith : Cond.code yX9_throwWith cX9_throwWith 4 (some .int) ∈ lw_tbl := lw_m3 (List.mem_of_getElem? (i := 103) rfl)
theorem cw_X9_ends : Cond.code yX9_ends cX9_ends 1 (some .int) ∈ lw_tbl := lw_m3 (List.mem_of_getElem? (i := 139) rfl)
theorem cw_X9_breaks : Cond.code yX9_breaks cX9_breaks 2 (some .int) ∈ lw_tbl := lw_m3 (List.mem_of_getElem? (i := 147) rfl)
theorem cw_X9_now : Cond.code yX9_now cX9_now 2 (some .int) ∈ lw_tbl := lw_m3 (List.mem_of_getElem? (i := 151) rfl)
theorem cw_X9_anew : Cond.code yX9_anew cX9_anew 2 (some .int) ∈ lw_tbl := lw_m3 (List.mem_of_getElem? (i := 155) rfl)
theorem cw_X9_longest : Cond.code yX9_longest cX9_longest 1 (some .int) ∈ lw_tbl := lw_m3 (List.mem_of_getElem? (i := 159) rfl)
theorem cw_X9_begins : Cond.code yX9_begins cX9_begins 2 (some .int) ∈ lw_tbl := lw_m3 (List.mem_of_getElem? (i := 203) rfl)
theorem cw_X9_most : Cond.code yX9_most cX9_most 2 (some .int) ∈ lw_tbl := lw_m3 (List.mem_of_getElem? (i := 207) rfl)
theorem cw_X9_rings : Cond.code yX9_rings cX9_rings 4 (some .int) ∈ lw_tbl := lw_m4 (List.mem_of_getElem? (i := 12) rfl)
theorem cw_X9_meeting : Cond.code yX9_meeting cX9_meeting 7 (some .int) ∈ lw_tbl := lw_m4 (List.mem_of_getElem? (i := 39) rfl)
theorem cw_X9_songs : Cond.code yX9_songs cX9_songs 8 (some .int) ∈ lw_tbl := lw_m4 (List.mem_of_getElem? (i := 72) rfl)
theorem cw_X9_hole : Cond.code yX9_hole cX9_hole 4 (some .int) ∈ lw_tbl := lw_m4 (List.mem_of_getElem? (i := 81) rfl)
theorem cw_X9_night : Cond.code yX9_night cX9_night 2 (some .int) ∈ lw_tbl := lw_m4 (List.mem_of_getElem? (i := 90) rfl)
theorem cw_X9_least : Cond.code yX9_least cX9_least 2 (some .int) ∈ lw_tbl := lw_m4 (List.mem_of_getElem? (i := 106) rfl)
theorem cw_X9_dry : Cond.code yX9_dry cX9_dry 2 (some .int) ∈ lw_tbl := lw_m4 (List.mem_of_getElem? (i := 110) rfl)
theorem cw_X9_tell : Cond.code yX9_tell cX9_tell 4 (some .int) ∈ lw_tbl := lw_m4 (List.mem_of_getElem? (i := 114) rfl)
theorem cw_X9_cheats : Cond.code yX9_cheats cX9_cheats 2 (some .int) ∈ lw_tbl := lw_m4 (List.mem_of_getElem? (i := 123) rfl)
theorem cw_X9_mark : Cond.code yX9_mark cX9_mark 3 (some .int) ∈ lw_tbl := lw_m4 (List.mem_of_getElem? (i := 151) rfl)
theorem cw_X9_keep : Cond.code yX9_keep cX9_keep 3 (some .int) ∈ lw_tbl := lw_m4 (List.mem_of_getElem? (i := 186) rfl)
theorem cw_X9_back : Cond.code yX9_back cX9_back 3 (some .int) ∈ lw_tbl := lw_m4 (List.mem_of_getElem? (i := 201) rfl)
theorem cw_X9_count : Cond.code yX9_count cX9_count 2 (some .int) ∈ lw_tbl := lw_m4 (List.mem_of_getElem? (i := 205) rfl)
theorem cw_X9_trace : Cond.code yX9_trace cX9_trace 1 (some .long) ∈ lw_tbl := lw_m4 (List.mem_of_getElem? (i := 209) rfl)
theorem cw_X9_imageAt : Cond.code yX9_imageAt cX9_imageAt 2 (some (.object "SpadeRings$Now")) ∈ lw_tbl := lw_m4 (List.mem_of_getElem? (i := 190) rfl)
theorem cw_X9_markAsPerson : Cond.code yX9_markAsPerson cX9_markAsPerson 2 (some .int) ∈ lw_tbl := lw_m4 (List.mem_of_getElem? (i := 156) rfl)
theorem cw_X9_markAsDigger : Cond.code yX9_markAsDigger cX9_markAsDigger 2 (some .int) ∈ lw_tbl := lw_m4 (List.mem_of_getElem? (i := 160) rfl)
theorem cw_X9_markAsSinger : Cond.code yX9_markAsSinger cX9_markAsSinger 2 (some .int) ∈ lw_tbl := lw_m4 (List.mem_of_getElem? (i := 166) rfl)
theorem cw_X9_markAsLeft : Cond.code yX9_markAsLeft cX9_markAsLeft 2 (some .int) ∈ lw_tbl := lw_m4 (List.mem_of_getElem? (i := 171) rfl)
theorem cw_X9_markAsProphet : Cond.code yX9_markAsProphet cX9_markAsProphet 2 (some .int) ∈ lw_tbl := lw_m4 (List.mem_of_getElem? (i := 176) rfl)
theorem cw_X9_markAsSlow : Cond.code yX9_markAsSlow cX9_markAsSlow 2 (some .int) ∈ lw_tbl := lw_m4 (List.mem_of_getElem? (i := 181) rfl)
theorem cw_X9_within : Cond.code yX9_within cX9_within 3 (some .boolean) ∈ lw_tbl := lw_m2 (List.mem_of_getElem? (i := 113) rfl)
theorem cw_X9_hasBit : Cond.code yX9_hasBit cX9_hasBit 2 (some .boolean) ∈ lw_tbl := lw_m3 (List.mem_of_getElem? (i := 75) rfl)
theorem cw_X9_asNumber : Cond.code yX9_asNumber cX9_asNumber 1 (some .int) ∈ lw_tbl := lw_m3 (List.mem_of_getElem? (i := 27) rfl)
theorem cw_X9_cell : Cond.code yX9_cell cX9_cell 2 (some .int) ∈ lw_tbl := lw_m2 (List.mem_of_getElem? (i := 151) rfl)
theorem cw_X9_put : Cond.code yX9_put cX9_put 3 none ∈ lw_tbl := lw_m2 (List.mem_of_getElem? (i := 124) rfl)
theorem cw_X9_fill : Cond.code yX9_fill cX9_fill 3 none ∈ lw_tbl := lw_m3 (List.mem_of_getElem? (i := 50) rfl)
theorem cw_X9_copy : Cond.code yX9_copy cX9_copy 3 none ∈ lw_tbl := lw_m4 (List.mem_of_getElem? (i := 197) rfl)
theorem cw_X9_quotient : Cond.code yX9_quotient cX9_quotient 2 (some .int) ∈ lw_tbl := lw_m3 (List.mem_of_getElem? (i := 120) rfl)
theorem cw_X9_remainder : Cond.code yX9_remainder cX9_remainder 2 (some .int) ∈ lw_tbl := lw_m4 (List.mem_of_getElem? (i := 63) rfl)
theorem cw_X10_in : Cond.code yX10_in cX10_in 3 (some .boolean) ∈ lw_tbl := lw_m5 (List.mem_of_getElem? (i := 110) rfl)
theorem cw_X10_type : Cond.code yX10_type cX10_type 5 (some .int) ∈ lw_tbl := lw_m5 (List.mem_of_getElem? (i := 107) rfl)
theorem cw_X10_clear : Cond.code yX10_clear cX10_clear 2 (some .int) ∈ lw_tbl := lw_m5 (List.mem_of_getElem? (i := 115) rfl)
theorem cw_X10_here : Cond.code yX10_here cX10_here 1 (some .int) ∈ lw_tbl := lw_m5 (List.mem_of_getElem? (i := 127) rfl)
theorem cw_X10_meaning : Cond.code yX10_meaning cX10_meaning 1 (some .int) ∈ lw_tbl := lw_m5 (List.mem_of_getElem? (i := 130) rfl)
theorem cw_X10_next : Cond.code yX10_next cX10_next 3 none ∈ lw_tbl := lw_m5 (List.mem_of_getElem? (i := 123) rfl)
theorem cw_X10_due : Cond.code yX10_due cX10_due 3 (some .int) ∈ lw_tbl := lw_m5 (List.mem_of_getElem? (i := 138) rfl)
theorem cw_X10_number : Cond.code yX10_number cX10_number 3 (some .int) ∈ lw_tbl := lw_m5 (List.mem_of_getElem? (i := 142) rfl)
theorem cw_X10_side : Cond.code yX10_side cX10_side 3 (some .int) ∈ lw_tbl := lw_m5 (List.mem_of_getElem? (i := 146) rfl)
theorem cw_X10_readItem : Cond.code yX10_readItem cX10_readItem 3 none ∈ lw_tbl := lw_m5 (List.mem_of_getElem? (i := 134) rfl)
theorem cw_X10_gang : Cond.code yX10_gang cX10_gang 3 (some .int) ∈ lw_tbl := lw_m5 (List.mem_of_getElem? (i := 119) rfl)
theorem cw_X10_isDigger : Cond.code yX10_isDigger cX10_isDigger 2 (some .boolean) ∈ lw_tbl := lw_m5 (List.mem_of_getElem? (i := 158) rfl)
theorem cw_X10_isSpade : Cond.code yX10_isSpade cX10_isSpade 2 (some .boolean) ∈ lw_tbl := lw_m5 (List.mem_of_getElem? (i := 166) rfl)
theorem cw_X10_bitsIn : Cond.code yX10_bitsIn cX10_bitsIn 3 (some .int) ∈ lw_tbl := lw_m6 (List.mem_of_getElem? (i := 83) rfl)
theorem cw_X10_digger : Cond.code yX10_digger cX10_digger 3 (some .int) ∈ lw_tbl := lw_m5 (List.mem_of_getElem? (i := 154) rfl)
theorem cw_X10_spade : Cond.code yX10_spade cX10_spade 3 (some .int) ∈ lw_tbl := lw_m5 (List.mem_of_getElem? (i := 162) rfl)
theorem cw_X10_yard : Cond.code yX10_yard cX10_yard 3 (some .int) ∈ lw_tbl := lw_m5 (List.mem_of_getElem? (i := 170) rfl)
theorem cw_X10_mayNow : Cond.code yX10_mayNow cX10_mayNow 4 (some .boolean) ∈ lw_tbl := lw_m5 (List.mem_of_getElem? (i := 178) rfl)
theorem cw_X10_may : Cond.code yX10_may cX10_may 3 (some .int) ∈ lw_tbl := lw_m5 (List.mem_of_getElem? (i := 174) rfl)
theorem cw_X10_yardNow : Cond.code yX10_yardNow cX10_yardNow 2 (some .int) ∈ lw_tbl := lw_m5 (List.mem_of_getElem? (i := 186) rfl)
theorem cw_X10_throwWith : Cond.code yX10_throwWith cX10_throwWith 6 (some .int) ∈ lw_tbl := lw_m5 (List.mem_of_getElem? (i := 182) rfl)
theorem cw_X10_ends : Cond.code yX10_ends cX10_ends 3 (some .int) ∈ lw_tbl := lw_m5 (List.mem_of_getElem? (i := 190) rfl)
theorem cw_X10_breaks : Cond.code yX10_breaks cX10_breaks 3 (some .int) ∈ lw_tbl := lw_m5 (List.mem_of_getElem? (i := 194) rfl)
theorem cw_X10_now : Cond.code yX10_now cX10_now 2 (some .int) ∈ lw_tbl := lw_m5 (List.mem_of_getElem? (i := 198) rfl)
theorem cw_X10_anew : Cond.code yX10_anew cX10_anew 3 (some .int) ∈ lw_tbl := lw_m5 (List.mem_of_getElem? (i := 150) rfl)
theorem cw_X10_findEdges : Cond.code yX10_findEdges cX10_findEdges 4 none ∈ lw_tbl := lw_m5 (List.mem_of_getElem? (i := 207) rfl)
theorem cw_X10_begin : Cond.code yX10_begin cX10_begin 2 none ∈ lw_tbl := lw_m5 (List.mem_of_getElem? (i := 219) rfl)
theorem cw_X10_weight : Cond.code yX10_weight cX10_weight 3 (some .int) ∈ lw_tbl := lw_m5 (List.mem_of_getElem? (i := 232) rfl)
theorem cw_X10_findWays : Cond.code yX10_findWays cX10_findWays 8 none ∈ lw_tbl := lw_m5 (List.mem_of_getElem? (i := 227) rfl)
theorem cw_X10_augment : Cond.code yX10_augment cX10_augment 7 (some .int) ∈ lw_tbl := lw_m5 (List.mem_of_getElem? (i := 223) rfl)
theorem cw_X10_isLong : Cond.code yX10_isLong cX10_isLong 3 (some .boolean) ∈ lw_tbl := lw_m5 (List.mem_of_getElem? (i := 215) rfl)
theorem cw_X10_longestBy : Cond.code yX10_longestBy cX10_longestBy 2 (some .int) ∈ lw_tbl := lw_m5 (List.mem_of_getElem? (i := 211) rfl)
theorem cw_X10_longest : Cond.code yX10_longest cX10_longest 1 (some .int) ∈ lw_tbl := lw_m5 (List.mem_of_getElem? (i := 203) rfl)
theorem cw_X10_isUsed : Cond.code yX10_isUsed cX10_isUsed 4 (some .boolean) ∈ lw_tbl := lw_m6 (List.mem_of_getElem? (i := 0) rfl)
theorem cw_X10_leaves : Cond.code yX10_leaves cX10_leaves 4 (some .boolean) ∈ lw_tbl := lw_m6 (List.mem_of_getElem? (i := 4) rfl)
theorem cw_X10_begins : Cond.code yX10_begins cX10_begins 4 (some .int) ∈ lw_tbl := lw_m5 (List.mem_of_getElem? (i := 236) rfl)
theorem cw_X10_most : Cond.code yX10_most cX10_most 4 (some .int) ∈ lw_tbl := lw_m6 (List.mem_of_getElem? (i := 8) rfl)
theorem cw_X10_dugBy : Cond.code yX10_dugBy cX10_dugBy 7 (some .int) ∈ lw_tbl := lw_m6 (List.mem_of_getElem? (i := 20) rfl)
theorem cw_X10_part : Cond.code yX10_part cX10_part 7 (some .boolean) ∈ lw_tbl := lw_m6 (List.mem_of_getElem? (i := 16) rfl)
theorem cw_X10_isAhead : Cond.code yX10_isAhead cX10_isAhead 2 (some .boolean) ∈ lw_tbl := lw_m6 (List.mem_of_getElem? (i := 24) rfl)
theorem cw_X10_rings : Cond.code yX10_rings cX10_rings 8 (some .int) ∈ lw_tbl := lw_m6 (List.mem_of_getElem? (i := 12) rfl)
theorem cw_X10_stroke : Cond.code yX10_stroke cX10_stroke 7 (some .int) ∈ lw_tbl := lw_m6 (List.mem_of_getElem? (i := 36) rfl)
theorem cw_X10_allLeft : Cond.code yX10_allLeft cX10_allLeft 3 (some .int) ∈ lw_tbl := lw_m6 (List.mem_of_getElem? (i := 32) rfl)
theorem cw_X10_meeting : Cond.code yX10_meeting cX10_meeting 10 (some .int) ∈ lw_tbl := lw_m6 (List.mem_of_getElem? (i := 28) rfl)
theorem cw_X10_songs : Cond.code yX10_songs cX10_songs 7 (some .int) ∈ lw_tbl := lw_m6 (List.mem_of_getElem? (i := 40) rfl)
theorem cw_X10_hole : Cond.code yX10_hole cX10_hole 4 (some .int) ∈ lw_tbl := lw_m6 (List.mem_of_getElem? (i := 44) rfl)
theorem cw_X10_nextHole : Cond.code yX10_nextHole cX10_nextHole 5 (some .int) ∈ lw_tbl := lw_m6 (List.mem_of_getElem? (i := 56) rfl)
theorem cw_X10_isClosed : Cond.code yX10_isClosed cX10_isClosed 6 (some .boolean) ∈ lw_tbl := lw_m6 (List.mem_of_getElem? (i := 52) rfl)
theorem cw_X10_night : Cond.code yX10_night cX10_night 2 (some .int) ∈ lw_tbl := lw_m6 (List.mem_of_getElem? (i := 48) rfl)
theorem cw_X10_least : Cond.code yX10_least cX10_least 2 (some .int) ∈ lw_tbl := lw_m6 (List.mem_of_getElem? (i := 60) rfl)
theorem cw_X10_dry : Cond.code yX10_dry cX10_dry 2 (some .int) ∈ lw_tbl := lw_m6 (List.mem_of_getElem? (i := 64) rfl)
theorem cw_X10_tell : Cond.code yX10_tell cX10_tell 4 (some .int) ∈ lw_tbl := lw_m6 (List.mem_of_getElem? (i := 68) rfl)
theorem cw_X10_isFalse : Cond.code yX10_isFalse cX10_isFalse 5 (some .boolean) ∈ lw_tbl := lw_m6 (List.mem_of_getElem? (i := 76) rfl)
theorem cw_X10_cheats : Cond.code yX10_cheats cX10_cheats 6 (some .int) ∈ lw_tbl := lw_m6 (List.mem_of_getElem? (i := 72) rfl)
theorem cw_X10_mark : Cond.code yX10_mark cX10_mark 4 (some .int) ∈ lw_tbl := lw_m6 (List.mem_of_getElem? (i := 80) rfl)
theorem cw_X10_copy : Cond.code yX10_copy cX10_copy 4 none ∈ lw_tbl := lw_m6 (List.mem_of_getElem? (i := 96) rfl)
theorem cw_X10_keep : Cond.code yX10_keep cX10_keep 2 (some .int) ∈ lw_tbl := lw_m6 (List.mem_of_getElem? (i := 92) rfl)
theorem cw_X10_back : Cond.code yX10_back cX10_back 2 (some .int) ∈ lw_tbl := lw_m6 (List.mem_of_getElem? (i := 100) rfl)
theorem cw_X10_count : Cond.code yX10_count cX10_count 2 (some .int) ∈ lw_tbl := lw_m6 (List.mem_of_getElem? (i := 104) rfl)
theorem cw_X10_trace : Cond.code yX10_trace cX10_trace 1 (some .long) ∈ lw_tbl := lw_m6 (List.mem_of_getElem? (i := 108) rfl)
end
section
/-! FROM THE SMALL MACHINE TO THE LARGE ONE, 1: ghosts, worlds, locals -/
def lw_G : List Jvm.Cond := lw_tbl.filter mGoodW
theorem lw_G_in {w : Jvm.Cond} (h : w ∈ lw_tbl) (g : mGoodW w = true) : w ∈ lw_G := List.mem_filter.mpr ⟨h, g⟩
theorem lw_warm {w : Jvm.Cond} (g : mGoodW w = true) {args a' : Array Value} {s U : State} (hW : s.WarmedH U.vm) (h : w.before args s = true) : w.before a' U = true := by
  unfold mGoodW at g
  rw [Bool.or_eq_true] at g
  rcases g with g | g
  · exact word_at hW (good_of_word g) h
  · cases w
    case methodLinkNest => exact va_Nw.use rfl (va_Nw.warmM hW (va_Nw.of rfl h))
    all_goals exact absurd g (by simp)
theorem mWd_in {i : Nat} {w : Jvm.Cond} (h : mWd i w = true) : w ∈ lw_tbl := List.mem_of_getElem? (of_decide_eq_true h)
theorem u_ws_G {ci : Nat} {q : vw_C} (h : vwCl[ci]? = some q) : ∀ w ∈ u_ws q.1 q.2.1 q.2.2, w ∈ lw_G := by
  intro w hw
  refine lw_G_in (vwCl_in ci q h w hw) ?_
  obtain ⟨k, -, rfl⟩ := List.mem_map.mp hw
  unfold u_lay
  split <;> rfl
/-- ghosts: the tables' numbers, the address of each place, the classes of rows, what place 130 is -/
abbrev mG : Type := va_G × (Nat → Nat) × (Nat → ClassId) × Value
def mTr (G : mG) (v : Value) : Value := match v with
  | .ref q => if q = 130 then G.2.2.2 else .ref (G.2.1 q)
  | v => v
def mA (G : mG) : Nat → Prop := fun q => ∃ k, k < 86 ∧ q = G.2.1 k
def mCell (G : mG) (st : mSt) (p : Nat) : va_E := match lay p with
  | (0, n, _) => .inl (G.2.2.1 0, n, .inl (st.1 p))
  | (1, n, _) => .inl (G.2.2.1 1, n, .inl (st.1 p))
  | (2, n, _) => .inl (G.2.2.1 2, n, .inl (st.1 p))
  | (3, n, fs) => .inl (G.2.2.1 3, n, .inr (.inr (.inr (.inr (fun j => (fs[j]?).map (fun f => G.2.1 f.2))))))
  | (_, ci, fs) => .inr (ci, (List.range fs.length).map (fun k => mTr G (mFld st p k (fs.getD k (0, 0)))))
def mWs (G : mG) (st : mSt) : va_W := (List.range 86).map (fun p => (G.2.1 p, mCell G st p))
def mTys (G : mG) : List (ClassId × FieldType) := [(G.2.2.1 0, .int), (G.2.2.1 1, .byte), (G.2.2.1 2, .boolean), (G.2.2.1 3, .object "SpadeRings$Now")]
def strI : List Nat := [122, 128, 130, 132, 134]
def strK : List String := ["digger", "spade", "yard", "right", "left"]
/-- what never changes -/
def mSR (G : mG) (U : State) : Prop :=
  (∀ i j : Nat, i < 86 → j < 86 → G.2.1 i = G.2.1 j → i = j) ∧
  vk_S 5 lenK bytK (fun i => G.2.1 (100 + i)) (fun i => G.2.1 (110 + i)) (mA G) U U.heap ∧
  (∀ i : Nat, i < 5 → vk_R "SpadeRings$Script" (strI.getD i 0) (strK.getD i "") (G.2.1 (100 + i)) U) ∧
  va_Z "java/lang/String" "COMPACT_STRINGS" "Z" (.int 1) (mA G) U U.heap ∧
  va_Z "jdk/internal/util/Preconditions" "SIOOBE_FORMATTER" "Ljava/util/function/BiFunction;" G.2.2.2 (mA G) U U.heap ∧ (G.2.2.2 = .null ∨ ∃ t, G.2.2.2 = .ref t)
def mWB (G : mG) (st : mSt) (U : State) : Prop := va_P G.1 vwCl (mWs G st) U.heap ∧ va_K G.1 vwCl (mTys G) U ∧ mSR G U
def mQc (G : mG) (v : Option Value) (st1 : mSt) : Array Value → State → Outcome → State → Prop := fun _ s0 oc t => oc = .returned (v.map (mTr G)) ∧ mWB G st1 t ∧ va_F (mA G) s0 t
def mRm (d : Nat) : Room := { frames := d, cells := 0, slots := 0, locals := 64 * d }
theorem lay_lt {p : Nat} (h : (lay p).1 < 5) : p < 86 := by
  unfold lay at h
  by_cases h1 : p < 86
  · exact h1
  · rw [if_neg h1] at h
    by_cases h2 : 100 ≤ p ∧ p < 105
    · rw [if_pos h2] at h
      exact absurd h (by simp)
    · rw [if_neg h2] at h
      by_cases h3 : 110 ≤ p ∧ p < 115
      · rw [if_pos h3] at h
        exact absurd h (by simp)
      · rw [if_neg h3] at h
        by_cases h4 : p = 120
        · rw [if_pos h4] at h
          exact absurd h (by decide)
        · rw [if_neg h4] at h
          exact absurd h (by decide)
theorem lay_5 {p i : Nat} {fs : List (Nat × Nat)} (h : lay p = (5, i, fs)) : i < 5 ∧ p = 100 + i := by
  have hk : ¬ (lay p).1 < 5 := by rw [h]; simp
  unfold lay at h
  by_cases h1 : p < 86
  · have h0 : ∀ p, p < 86 → (layL.getD p (9, 0, [])).1 < 5 := by decide +kernel
    exact absurd (by unfold lay; rw [if_pos h1]; exact h0 p h1) hk
  · rw [if_neg h1] at h
    by_cases h2 : 100 ≤ p ∧ p < 105
    · rw [if_pos h2] at h
      cases h
      omega
    · rw [if_neg h2] at h
      by_cases h3 : 110 ≤ p ∧ p < 115
      · rw [if_pos h3] at h
        cases h
      · rw [if_neg h3] at h
        by_cases h4 : p = 120
        · rw [if_pos h4] at h
          cases h
        · rw [if_neg h4] at h
          cases h
theorem lay_6 {p i : Nat} {fs : List (Nat × Nat)} (h : lay p = (6, i, fs)) : i < 5 ∧ p = 110 + i := by
  have hk : ¬ (lay p).1 < 5 := by rw [h]; simp
  unfold lay at h
  by_cases h1 : p < 86
  · have h0 : ∀ p, p < 86 → (layL.getD p (9, 0, [])).1 < 5 := by decide +kernel
    exact absurd (by unfold lay; rw [if_pos h1]; exact h0 p h1) hk
  · rw [if_neg h1] at h
    by_cases h2 : 100 ≤ p ∧ p < 105
    · rw [if_pos h2] at h
      cases h
    · rw [if_neg h2] at h
      by_cases h3 : 110 ≤ p ∧ p < 115
      · rw [if_pos h3] at h
        cases h
        omega
      · rw [if_neg h3] at h
        by_cases h4 : p = 120
        · rw [if_pos h4] at h
          cases h
        · rw [if_neg h4] at h
          cases h
theorem lay_7 {p i : Nat} {fs : List (Nat × Nat)} (h : lay p = (7, i, fs)) : p = 120 := by
  have hk : ¬ (lay p).1 < 5 := by rw [h]; simp
  unfold lay at h
  by_cases h1 : p < 86
  · have h0 : ∀ p, p < 86 → (layL.getD p (9, 0, [])).1 < 5 := by decide +kernel
    exact absurd (by unfold lay; rw [if_pos h1]; exact h0 p h1) hk
  · rw [if_neg h1] at h
    by_cases h2 : 100 ≤ p ∧ p < 105
    · rw [if_pos h2] at h
      cases h
    · rw [if_neg h2] at h
      by_cases h3 : 110 ≤ p ∧ p < 115
      · rw [if_pos h3] at h
        cases h
      · rw [if_neg h3] at h
        by_cases h4 : p = 120
        · exact h4
        · rw [if_neg h4] at h
          cases h
theorem mWs_len (G : mG) (st : mSt) : (mWs G st).length = 86 := by simp [mWs]
theorem mWs_get {G : mG} {st : mSt} {p : Nat} (h : p < 86) : (mWs G st)[p]? = some (G.2.1 p, mCell G st p) := by
  simp [mWs, h]
theorem mWs_out {G : mG} {st : mSt} {p : Nat} (h : ¬ p < 86) : (mWs G st)[p]? = none := List.getElem?_eq_none (by rw [mWs_len]; omega)
theorem mWs_set {G : mG} {st st' : mSt} {p : Nat} {x : va_E} (hp : p < 86) (hx : mCell G st' p = x) (ho : ∀ q, q ≠ p → mCell G st' q = mCell G st q) : (mWs G st).set p (G.2.1 p, x) = mWs G st' := by
  apply List.ext_getElem?
  intro k
  by_cases hk : k < 86
  · rw [mWs_get hk]
    by_cases e : k = p
    · subst e
      rw [List.getElem?_set_self (by rw [mWs_len]; exact hk), hx]
    · rw [List.getElem?_set_ne (Ne.symm e), mWs_get hk, ho k e]
  · rw [mWs_out hk, List.getElem?_eq_none (by rw [List.length_set, mWs_len]; omega)]
theorem mCell_congr {G : mG} {st st' : mSt} {q : Nat} (h1 : st'.1 q = st.1 q) (h2 : st'.2 q = st.2 q) : mCell G st' q = mCell G st q := by
  have e : ∀ k f, mFld st' q k f = mFld st q k f := by
    intro k f
    unfold mFld
    rw [h1, h2]
  unfold mCell
  rw [h1]
  simp only [e]
theorem mU_ne {f : Nat → Nat → Int32} {p k q : Nat} {x : Int32} (h : q ≠ p) : mU f p k x q = f q := if_neg h
theorem mU_eq {f : Nat → Nat → Int32} {p k : Nat} {x : Int32} : mU f p k x p = upd (f p) k x := if_pos rfl
theorem mUL_ne {f : Nat → Nat → Int64} {p k q : Nat} {x : Int64} (h : q ≠ p) : mUL f p k x q = f q := if_neg h
theorem mUL_eq {f : Nat → Nat → Int64} {p k : Nat} {x : Int64} : mUL f p k x p = vp_updL (f p) k x := if_pos rfl
theorem mWs_D {G : mG} {st : mSt} (h : ∀ i j : Nat, i < 86 → j < 86 → G.2.1 i = G.2.1 j → i = j) : va_D (mA G) (mWs G st) := by
  have key : ∀ (i : Nat) (q : Nat × va_E), (mWs G st)[i]? = some q → i < 86 ∧ q.1 = G.2.1 i := by
    intro i q hi
    by_cases hk : i < 86
    · rw [mWs_get hk] at hi
      cases hi
      exact ⟨hk, rfl⟩
    · rw [mWs_out hk] at hi
      cases hi
  refine ⟨fun i j x y hi hj e => ?_, fun k q hk => ?_⟩
  · obtain ⟨a, b⟩ := key i x hi
    obtain ⟨c, d⟩ := key j y hj
    exact h i j a c (by rw [← b, ← d]; exact e)
  · obtain ⟨a, b⟩ := key k q hk
    exact ⟨k, a, b⟩
theorem mTr_cat {G : mG} (hF : G.2.2.2 = .null ∨ ∃ t, G.2.2.2 = .ref t) (v : Value) : (mTr G v).category = v.category := by
  cases v <;> try rfl
  rename_i q
  unfold mTr
  by_cases h : q = 130
  · simp only [if_pos h]
    rcases hF with e | ⟨t, e⟩ <;> rw [e] <;> rfl
  · simp only [if_neg h]
    rfl
theorem mTr_ref {G : mG} {q : Nat} (h : q ≠ 130) : mTr G (.ref q) = .ref (G.2.1 q) := if_neg h
theorem mTr_cats {G : mG} (hF : G.2.2.2 = .null ∨ ∃ t, G.2.2.2 = .ref t) (l : List Value) : ((l.map (mTr G)).map fun v => v.category).sum = mCat l := by
  unfold mCat
  rw [List.map_map]
  congr 1
  apply List.map_congr_left
  intro v _
  exact mTr_cat hF v
/-- the locals, as pairs -/
def mPrs (G : mG) : Nat → mLs → List (Nat × Value)
  | _, [] => []
  | i, some v :: l => (i, mTr G v) :: mPrs G (i + 1) l
  | i, none :: l => mPrs G (i + 1) l
theorem mPrs_mem {G : mG} : ∀ (l : mLs) (k : Nat) (q : Nat × Value), q ∈ mPrs G k l ↔ ∃ (j : Nat) (v : Value), l[j]? = some (some v) ∧ q = (k + j, mTr G v) := by
  intro l
  induction l with
  | nil =>
    intro k q
    simp [mPrs]
  | cons a l ih =>
    intro k q
    have step : (∃ (j : Nat) (v : Value), l[j]? = some (some v) ∧ q = (k + 1 + j, mTr G v)) ↔ ∃ (j : Nat) (v : Value), (a :: l)[j + 1]? = some (some v) ∧ q = (k + (j + 1), mTr G v) := by
      constructor
      · rintro ⟨j, v, h1, h2⟩
        exact ⟨j, v, by simpa using h1, by rw [h2]; congr 1; omega⟩
      · rintro ⟨j, v, h1, h2⟩
        exact ⟨j, v, by simpa using h1, by rw [h2]; congr 1; omega⟩
    cases a with
    | none =>
      show q ∈ mPrs G (k + 1) l ↔ _
      rw [ih, step]
      constructor
      · rintro ⟨j, v, h⟩
        exact ⟨j + 1, v, h⟩
      · rintro ⟨j, v, h1, h2⟩
        cases j with
        | zero => simp at h1
        | succ j => exact ⟨j, v, h1, h2⟩
    | some w =>
      show q ∈ (k, mTr G w) :: mPrs G (k + 1) l ↔ _
      rw [List.mem_cons, ih, step]
      constructor
      · rintro (h | ⟨j, v, h⟩)
        · exact ⟨0, w, by simp, h⟩
        · exact ⟨j + 1, v, h⟩
      · rintro ⟨j, v, h1, h2⟩
        cases j with
        | zero =>
          simp at h1
          subst h1
          exact Or.inl h2
        | succ j => exact Or.inr ⟨j, v, h1, h2⟩
def mLo (G : mG) (lsA : Array Slot) (nL : Nat) (ls : mLs) : Prop := lv_has lsA nL (mPrs G 0 ls) ∧ ls.length = nL
theorem lv_mono {ls : Array Slot} {n : Nat} {l l' : List (Nat × Value)} (h : lv_has ls n l) (hs : ∀ q ∈ l', q ∈ l) : lv_has ls n l' := ⟨h.1, h.2.1, fun q hq => h.2.2 q (hs q hq)⟩
theorem mGet_some {ls : mLs} {i : Nat} {v : Value} (h : mGet ls i = some v) : ls[i]? = some (some v) := by
  unfold mGet at h
  rw [List.getD_eq_getElem?_getD] at h
  cases hx : ls[i]? with
  | none => rw [hx] at h; cases h
  | some y => rw [hx] at h; exact congrArg some h
theorem mLo_get {G : mG} {lsA : Array Slot} {nL i : Nat} {ls : mLs} {v : Value} (h : mLo G lsA nL ls) (hg : mGet ls i = some v) : lsA[i]? = some (.val (mTr G v)) := by
  have h1 := h.1.2.2 (i, mTr G v) ((mPrs_mem ls 0 _).mpr ⟨i, v, mGet_some hg, by simp⟩)
  exact h1
theorem mKill_get {ls : mLs} {i j : Nat} {w : Value} (hj : j ≠ i) (h : (mKill ls i)[j]? = some (some w)) : ls[j]? = some (some w) ∧ ¬ (j + 1 = i ∧ w.category = 2) := by
  unfold mKill at h
  cases i with
  | zero => exact ⟨h, by omega⟩
  | succ k =>
    simp only at h
    cases hx : ls.getD k none with
    | none =>
      rw [hx] at h
      refine ⟨h, fun ⟨e, _⟩ => ?_⟩
      have e' : j = k := by omega
      subst e'
      rw [List.getD_eq_getElem?_getD, h] at hx
      cases hx
    | some y =>
      rw [hx] at h
      simp only at h
      by_cases hc : y.category = 2
      · rw [if_pos hc] at h
        by_cases e : j = k
        · subst e
          by_cases hl : j < ls.length
          · rw [List.getElem?_set_self hl] at h
            cases h
          · rw [List.getElem?_eq_none (by rw [List.length_set]; omega)] at h
            cases h
        · rw [List.getElem?_set_ne (Ne.symm e)] at h
          exact ⟨h, by omega⟩
      · rw [if_neg hc] at h
        refine ⟨h, fun ⟨e, c⟩ => ?_⟩
        have e' : j = k := by omega
        subst e'
        rw [List.getD_eq_getElem?_getD, h] at hx
        cases hx
        exact hc c
theorem mKill_len (ls : mLs) (i : Nat) : (mKill ls i).length = ls.length := by
  unfold mKill
  split
  · rfl
  · split
    · split
      · rw [List.length_set]
      · rfl
    · rfl
theorem mSet1_len (ls : mLs) (i : Nat) (v : Value) : (mSet1 ls i v).length = ls.length := by
  unfold mSet1
  rw [List.length_set, mKill_len]
theorem mSet2_len (ls : mLs) (i : Nat) (v : Value) : (mSet2 ls i v).length = ls.length := by
  unfold mSet2
  rw [List.length_set, List.length_set, mKill_len]
theorem mPrs_set1 {G : mG} (hF : G.2.2.2 = .null ∨ ∃ t, G.2.2.2 = .ref t) {ls : mLs} {i : Nat} {v : Value} (hi : i < ls.length) : ∀ q ∈ mPrs G 0 (mSet1 ls i v), q ∈ (i, mTr G v) :: (mPrs G 0 ls).filter (fun q => !(q.1 == i) && !(q.1 + 1 == i && q.2.category == 2)) := by
  intro q hq
  obtain ⟨j, w, h1, rfl⟩ := (mPrs_mem _ 0 q).mp hq
  unfold mSet1 at h1
  by_cases e : j = i
  · subst e
    rw [List.getElem?_set_self (by rw [mKill_len]; exact hi)] at h1
    cases h1
    rw [Nat.zero_add]
    exact List.mem_cons_self
  · rw [List.getElem?_set_ne (Ne.symm e)] at h1
    obtain ⟨h2, h3⟩ := mKill_get e h1
    refine List.mem_cons_of_mem _ (List.mem_filter.mpr ⟨(mPrs_mem ls 0 _).mpr ⟨j, w, h2, rfl⟩, ?_⟩)
    have hc := mTr_cat hF w
    simp only [Nat.zero_add, Bool.and_eq_true, Bool.not_eq_true', beq_eq_false_iff_ne, ne_eq, e, not_false_eq_true, true_and, Bool.and_eq_false_iff]
    by_cases e2 : j + 1 = i
    · right
      intro h
      exact h3 ⟨e2, by rw [← hc]; exact h⟩
    · left
      exact e2
theorem mPrs_set2 {G : mG} (hF : G.2.2.2 = .null ∨ ∃ t, G.2.2.2 = .ref t) {ls : mLs} {i : Nat} {v : Value} (hi : i + 1 < ls.length) : ∀ q ∈ mPrs G 0 (mSet2 ls i v), q ∈ (i, mTr G v) :: (mPrs G 0 ls).filter (fun q => !(q.1 == i) && (!(q.1 == i + 1) && !(q.1 + 1 == i && q.2.category == 2))) := by
  intro q hq
  obtain ⟨j, w, h1, rfl⟩ := (mPrs_mem _ 0 q).mp hq
  unfold mSet2 at h1
  have e1 : j ≠ i + 1 := by
    intro e
    subst e
    rw [List.getElem?_set_self (by rw [List.length_set, mKill_len]; exact hi)] at h1
    cases h1
  rw [List.getElem?_set_ne (Ne.symm e1)] at h1
  by_cases e : j = i
  · subst e
    rw [List.getElem?_set_self (by rw [mKill_len]; omega)] at h1
    cases h1
    rw [Nat.zero_add]
    exact List.mem_cons_self
  · rw [List.getElem?_set_ne (Ne.symm e)] at h1
    obtain ⟨h2, h3⟩ := mKill_get e h1
    refine List.mem_cons_of_mem _ (List.mem_filter.mpr ⟨(mPrs_mem ls 0 _).mpr ⟨j, w, h2, rfl⟩, ?_⟩)
    have hc := mTr_cat hF w
    simp only [Nat.zero_add, Bool.and_eq_true, Bool.not_eq_true', beq_eq_false_iff_ne, ne_eq, e, e1, not_false_eq_true, true_and, Bool.and_eq_false_iff]
    by_cases e2 : j + 1 = i
    · right
      intro h
      exact h3 ⟨e2, by rw [← hc]; exact h⟩
    · left
      exact e2
theorem mPrs_entry {G : mG} (hF : G.2.2.2 = .null ∨ ∃ t, G.2.2.2 = .ref t) (n : Nat) : ∀ (args : List Value) (k : Nat), mPrs G k (mArgs args ++ List.replicate n none) = lv_args k (args.map (mTr G)) := by
  intro args
  induction args with
  | nil =>
    intro k
    show mPrs G k (List.replicate n none) = []
    induction n generalizing k with
    | zero => rfl
    | succ n ih =>
      rw [List.replicate_succ]
      exact ih (k + 1)
  | cons v l ih =>
    intro k
    have hc := mTr_cat hF v
    rw [List.map_cons]
    unfold mArgs lv_args
    rw [hc]
    by_cases h : v.category = 2
    · rw [if_pos h, if_pos h]
      show (k, mTr G v) :: mPrs G (k + 1 + 1) (mArgs l ++ _) = _
      rw [ih]
    · rw [if_neg h, if_neg h]
      show (k, mTr G v) :: mPrs G (k + 1) (mArgs l ++ _) = _
      rw [ih]
theorem mArgs_len {G : mG} (hF : G.2.2.2 = .null ∨ ∃ t, G.2.2.2 = .ref t) (args : List Value) : (lg_sl (args.map (mTr G))).length = (mArgs args).length := by
  induction args with
  | nil => rfl
  | cons v l ih =>
    have hc := mTr_cat hF v
    rw [List.map_cons]
    unfold lg_sl at ih ⊢
    rw [List.flatMap_cons, List.length_append, ih, hc]
    show _ = (if v.category = 2 then some v :: none :: mArgs l else some v :: mArgs l).length
    by_cases h : v.category = 2
    · rw [if_pos h, if_pos h]
      simp only [List.length_cons, List.length_nil]
      omega
    · rw [if_neg h, if_neg h]
      simp only [List.length_cons, List.length_nil]
      omega
theorem mSR_go {G : mG} {s U : State} {locs : List Loc} {H : Heap} (hU : U.heap = H) (hW : s.WarmedH U.vm) (hS : va_S (mA G) s.heap H locs) (h : mSR G s) : mSR G U := by
  obtain ⟨h1, h2, h3, h4, h5, h6⟩ := h
  subst hU
  exact ⟨h1, (vk_S.moved hW.alike h2).kept hS.2.1, fun i hi => vk_R.warm hW (h3 i hi), (va_Z.moved hW.alike h4).kept hS.2.1, (va_Z.moved hW.alike h5).kept hS.2.1, h6⟩
theorem mWB_blind {G : mG} {st : mSt} {U : State} (h : mWB G st U) (g : JFrame) (mk : MethodId) (a : Array Value) : mWB G st (U.calling g mk a) := by
  obtain ⟨h1, h2, h3, h4, h5, h6, h7, h8⟩ := h
  exact ⟨h1, va_K.moved (u := U) (U := U.calling g mk a) (Vm.Alike.refl U.vm) h2, h3, vk_S.moved (u := U) (U := U.calling g mk a) (Vm.Alike.refl U.vm) h4, fun i hi => vk_R.same (u := U) (U := U.calling g mk a) rfl (h5 i hi), va_Z.moved (u := U) (U := U.calling g mk a) (Vm.Alike.refl U.vm) h6, va_Z.moved (u := U) (U := U.calling g mk a) (Vm.Alike.refl U.vm) h7, h8⟩
theorem mPc_blind {G : mG} {st : mSt} {av : List Value} : FrameBlind (va_Pc av (mWB G st)) := fun _ _ g mk q => ⟨q.1, mWB_blind q.2 g mk _⟩
end
section
/-! FROM THE SMALL MACHINE TO THE LARGE ONE, 2: what the tables say of each method, of each class, of each call -/
theorem cwT0 : ∀ q ∈ mT_0, Cond.code q.1 q.2.1 q.2.2.1 q.2.2.2.1 ∈ lw_tbl := List.forall_mem_cons.mpr ⟨cw_J6_bitCount_0f7a4, List.forall_mem_cons.mpr ⟨cw_J13_bitCount_95d88, List.forall_mem_cons.mpr ⟨cw_J9_floorMod_7cf53, List.forall_mem_cons.mpr ⟨cw_J9_max_7cf53, List.forall_mem_cons.mpr ⟨cw_J9_min_7cf53, List.forall_mem_cons.mpr ⟨cw_J0_length_8abf5, List.forall_mem_cons.mpr ⟨cw_J0_coder_7d493, List.forall_mem_cons.mpr ⟨cw_J0_charAt_5068e, List.forall_mem_cons.mpr ⟨cw_J0_isLatin1_aae02, List.forall_mem_cons.mpr ⟨cw_J0_checkIndex_df160, List.forall_mem_cons.mpr ⟨cw_J1_charAt_3b067, List.forall_mem_cons.mpr ⟨cw_J3_checkIndex_8e157, List.forall_mem_cons.mpr ⟨cw_X0_work, List.forall_mem_cons.mpr ⟨cw_X0_look, List.forall_mem_cons.mpr ⟨cw_X0_findRounds, List.forall_mem_cons.mpr ⟨cw_X0_fits, List.forall_mem_cons.mpr ⟨cw_X0_bearable, List.forall_mem_cons.mpr ⟨cw_X0_place, List.forall_mem_cons.mpr ⟨cw_X0_placeWith, List.forall_mem_cons.mpr ⟨cw_X1_empty, List.forall_mem_cons.mpr ⟨cw_X1_hasDigger, List.forall_mem_cons.mpr ⟨cw_X1_hasSpade, List.forall_mem_cons.mpr ⟨cw_X1_hasYard, List.forall_mem_cons.mpr ⟨cw_X1_addDigger, List.forall_mem_cons.mpr ⟨cw_X1_addSpade, List.forall_mem_cons.mpr ⟨cw_X1_addYard, List.forall_mem_cons.mpr ⟨cw_X1_suits, List.forall_mem_cons.mpr ⟨cw_X1_product, List.forall_mem_cons.mpr ⟨cw_X1_clodsOf, List.forall_mem_cons.mpr ⟨cw_X1_allClods, List.forall_mem_cons.mpr ⟨cw_X1_yardOfClod, List.forall_mem_cons.mpr ⟨cw_X2_greatest, List.forall_mem_cons.mpr ⟨cw_X2_look, List.forall_mem_cons.mpr ⟨cw_X2_findChains, List.forall_mem_cons.mpr ⟨cw_X2_lengthenBy, List.forall_mem_cons.mpr ⟨cw_X2_lengthenToSpade, List.forall_mem_cons.mpr ⟨cw_X2_lengthenToDigger, List.forall_mem_cons.mpr ⟨cw_X2_bestLastSpade, List.forall_mem_cons.mpr ⟨cw_X2_follow, List.forall_mem_cons.mpr ⟨cw_X3_add, List.forall_mem_cons.mpr ⟨cw_X3_leastClods, List.forall_mem_cons.mpr ⟨cw_X3_neededWithin, List.forall_mem_cons.mpr ⟨cw_X4_hold, List.forall_mem_cons.mpr ⟨cw_X4_firstBeatWith, List.forall_mem_cons.mpr ⟨cw_X4_dugBy, List.forall_mem_cons.mpr ⟨cw_X5_reset, List.forall_mem_cons.mpr ⟨cw_X5_copyFrom, List.forall_mem_cons.mpr ⟨cw_X5_allows, fun _ h => absurd h List.not_mem_nil⟩⟩⟩⟩⟩⟩⟩⟩⟩⟩⟩⟩⟩⟩⟩⟩⟩⟩⟩⟩⟩⟩⟩⟩⟩⟩⟩⟩⟩⟩⟩⟩⟩⟩⟩⟩⟩⟩⟩⟩⟩⟩⟩⟩⟩⟩⟩⟩
theorem ckT0 : ∀ q ∈ mT_0, mChk mT q.1.cls q.2.1 q.2.2.2.2.2.2.2 = true := List.forall_mem_cons.mpr ⟨ck_J6_bitCount_0f7a4, List.forall_mem_cons.mpr ⟨ck_J13_bitCount_95d88, List.forall_mem_cons.mpr ⟨ck_J9_floorMod_7cf53, List.forall_mem_cons.mpr ⟨ck_J9_max_7cf53, List.forall_mem_cons.mpr ⟨ck_J9_min_7cf53, List.forall_mem_cons.mpr ⟨ck_J0_length_8abf5, List.forall_mem_cons.mpr ⟨ck_J0_coder_7d493, List.forall_mem_cons.mpr ⟨ck_J0_charAt_5068e, List.forall_mem_cons.mpr ⟨ck_J0_isLatin1_aae02, List.forall_mem_cons.mpr ⟨ck_J0_checkIndex_df160, List.forall_mem_cons.mpr ⟨ck_J1_charAt_3b067, List.forall_mem_cons.mpr ⟨ck_J3_checkIndex_8e157, List.forall_mem_cons.mpr ⟨ck_X0_work, List.forall_mem_cons.mpr ⟨ck_X0_look, List.forall_mem_cons.mpr ⟨ck_X0_findRounds, List.forall_mem_cons.mpr ⟨ck_X0_fits, List.forall_mem_cons.mpr ⟨ck_X0_bearable, List.forall_mem_cons.mpr ⟨ck_X0_place, List.forall_mem_cons.mpr ⟨ck_X0_placeWith, List.forall_mem_cons.mpr ⟨ck_X1_empty, List.forall_mem_cons.mpr ⟨ck_X1_hasDigger, List.forall_mem_cons.mpr ⟨ck_X1_hasSpade, List.forall_mem_cons.mpr ⟨ck_X1_hasYard, List.forall_mem_cons.mpr ⟨ck_X1_addDigger, List.forall_mem_cons.mpr ⟨ck_X1_addSpade, List.forall_mem_cons.mpr ⟨ck_X1_addYard, List.forall_mem_cons.mpr ⟨ck_X1_suits, List.forall_mem_cons.mpr ⟨ck_X1_product, List.forall_mem_cons.mpr ⟨ck_X1_clodsOf, List.forall_mem_cons.mpr ⟨ck_X1_allClods, List.forall_mem_cons.mpr ⟨ck_X1_yardOfClod, List.forall_mem_cons.mpr ⟨ck_X2_greatest, List.forall_mem_cons.mpr ⟨ck_X2_look, List.forall_mem_cons.mpr ⟨ck_X2_findChains, List.forall_mem_cons.mpr ⟨ck_X2_lengthenBy, List.forall_mem_cons.mpr ⟨ck_X2_lengthenToSpade, List.forall_mem_cons.mpr ⟨ck_X2_lengthenToDigger, List.forall_mem_cons.mpr ⟨ck_X2_bestLastSpade, List.forall_mem_cons.mpr ⟨ck_X2_follow, List.forall_mem_cons.mpr ⟨ck_X3_add, List.forall_mem_cons.mpr ⟨ck_X3_leastClods, List.forall_mem_cons.mpr ⟨ck_X3_neededWithin, List.forall_mem_cons.mpr ⟨ck_X4_hold, List.forall_mem_cons.mpr ⟨ck_X4_firstBeatWith, List.forall_mem_cons.mpr ⟨ck_X4_dugBy, List.forall_mem_cons.mpr ⟨ck_X5_reset, List.forall_mem_cons.mpr ⟨ck_X5_copyFrom, List.forall_mem_cons.mpr ⟨ck_X5_allows, fun _ h => absurd h List.not_mem_nil⟩⟩⟩⟩⟩⟩⟩⟩⟩⟩⟩⟩⟩⟩⟩⟩⟩⟩⟩⟩⟩⟩⟩⟩⟩⟩⟩⟩⟩⟩⟩⟩⟩⟩⟩⟩⟩⟩⟩⟩⟩⟩⟩⟩⟩⟩⟩⟩
theorem cwT1 : ∀ q ∈ mT_1, Cond.code q.1 q.2.1 q.2.2.1 q.2.2.2.1 ∈ lw_tbl := List.forall_mem_cons.mpr ⟨cw_X5_canThrow, List.forall_mem_cons.mpr ⟨cw_X5_earthOf, List.forall_mem_cons.mpr ⟨cw_X5_noteThrow, List.forall_mem_cons.mpr ⟨cw_X5_dig, List.forall_mem_cons.mpr ⟨cw_X5_endRound, List.forall_mem_cons.mpr ⟨cw_X6_part, List.forall_mem_cons.mpr ⟨cw_X6_partRest, List.forall_mem_cons.mpr ⟨cw_X6_offer, List.forall_mem_cons.mpr ⟨cw_X6_weigh, List.forall_mem_cons.mpr ⟨cw_X6_ringOf, List.forall_mem_cons.mpr ⟨cw_X7_hasRoomFor, List.forall_mem_cons.mpr ⟨cw_X7_append, List.forall_mem_cons.mpr ⟨cw_X7_wipe, List.forall_mem_cons.mpr ⟨cw_X7_readInto, List.forall_mem_cons.mpr ⟨cw_X7_readItem, List.forall_mem_cons.mpr ⟨cw_X7_readDigger, List.forall_mem_cons.mpr ⟨cw_X7_readSpade, List.forall_mem_cons.mpr ⟨cw_X7_readYard, List.forall_mem_cons.mpr ⟨cw_X7_takeWord, List.forall_mem_cons.mpr ⟨cw_X7_takeNumber, List.forall_mem_cons.mpr ⟨cw_X7_takeSemicolon, List.forall_mem_cons.mpr ⟨cw_X7_takes, List.forall_mem_cons.mpr ⟨cw_X7_cutIntoTokens, List.forall_mem_cons.mpr ⟨cw_X7_behindBlanks, List.forall_mem_cons.mpr ⟨cw_X7_endOfToken, List.forall_mem_cons.mpr ⟨cw_X7_tokenOf, List.forall_mem_cons.mpr ⟨cw_X7_numberOf, List.forall_mem_cons.mpr ⟨cw_X7_wordOf, List.forall_mem_cons.mpr ⟨cw_X7_isWord, List.forall_mem_cons.mpr ⟨cw_X7_isLetter, List.forall_mem_cons.mpr ⟨cw_X7_isDigit, List.forall_mem_cons.mpr ⟨cw_X8_forget, List.forall_mem_cons.mpr ⟨cw_X8_add, List.forall_mem_cons.mpr ⟨cw_X8_pairOf, List.forall_mem_cons.mpr ⟨cw_X8_whoThrewTwice, List.forall_mem_cons.mpr ⟨cw_X8_falseRounds, List.forall_mem_cons.mpr ⟨cw_X8_isFalse, List.forall_mem_cons.mpr ⟨cw_X9_type, List.forall_mem_cons.mpr ⟨cw_X9_clear, List.forall_mem_cons.mpr ⟨cw_X9_gang, List.forall_mem_cons.mpr ⟨cw_X9_digger, List.forall_mem_cons.mpr ⟨cw_X9_spade, List.forall_mem_cons.mpr ⟨cw_X9_yard, List.forall_mem_cons.mpr ⟨cw_X9_may, List.forall_mem_cons.mpr ⟨cw_X9_throwWith, List.forall_mem_cons.mpr ⟨cw_X9_ends, List.forall_mem_cons.mpr ⟨cw_X9_breaks, List.forall_mem_cons.mpr ⟨cw_X9_now, fun _ h => absurd h List.not_mem_nil⟩⟩⟩⟩⟩⟩⟩⟩⟩⟩⟩⟩⟩⟩⟩⟩⟩⟩⟩⟩⟩⟩⟩⟩⟩⟩⟩⟩⟩⟩⟩⟩⟩⟩⟩⟩⟩⟩⟩⟩⟩⟩⟩⟩⟩⟩⟩⟩
theorem ckT1 : ∀ q ∈ mT_1, mChk mT q.1.cls q.2.1 q.2.2.2.2.2.2.2 = true := List.forall_mem_cons.mpr ⟨ck_X5_canThrow, List.forall_mem_cons.mpr ⟨ck_X5_earthOf, List.forall_mem_cons.mpr ⟨ck_X5_noteThrow, List.forall_mem_cons.mpr ⟨ck_X5_dig, List.forall_mem_cons.mpr ⟨ck_X5_endRound, List.forall_mem_cons.mpr ⟨ck_X6_part, List.forall_mem_cons.mpr ⟨ck_X6_partRest, List.forall_mem_cons.mpr ⟨ck_X6_offer, List.forall_mem_cons.mpr ⟨ck_X6_weigh, List.forall_mem_cons.mpr ⟨ck_X6_ringOf, List.forall_mem_cons.mpr ⟨ck_X7_hasRoomFor, List.forall_mem_cons.mpr ⟨ck_X7_append, List.forall_mem_cons.mpr ⟨ck_X7_wipe, List.forall_mem_cons.mpr ⟨ck_X7_readInto, List.forall_mem_cons.mpr ⟨ck_X7_readItem, List.forall_mem_cons.mpr ⟨ck_X7_readDigger, List.forall_mem_cons.mpr ⟨ck_X7_readSpade, List.forall_mem_cons.mpr ⟨ck_X7_readYard, List.forall_mem_cons.mpr ⟨ck_X7_takeWord, List.forall_mem_cons.mpr ⟨ck_X7_takeNumber, List.forall_mem_cons.mpr ⟨ck_X7_takeSemicolon, List.forall_mem_cons.mpr ⟨ck_X7_takes, List.forall_mem_cons.mpr ⟨ck_X7_cutIntoTokens, List.forall_mem_cons.mpr ⟨ck_X7_behindBlanks, List.forall_mem_cons.mpr ⟨ck_X7_endOfToken, List.forall_mem_cons.mpr ⟨ck_X7_tokenOf, List.forall_mem_cons.mpr ⟨ck_X7_numberOf, List.forall_mem_cons.mpr ⟨ck_X7_wordOf, List.forall_mem_cons.mpr ⟨ck_X7_isWord, List.forall_mem_cons.mpr ⟨ck_X7_isLetter, List.forall_mem_cons.mpr ⟨ck_X7_isDigit, List.forall_mem_cons.mpr ⟨ck_X8_forget, List.forall_mem_cons.mpr ⟨ck_X8_add, List.forall_mem_cons.mpr ⟨ck_X8_pairOf, List.forall_mem_cons.mpr ⟨ck_X8_whoThrewTwice, List.forall_mem_cons.mpr ⟨ck_X8_falseRounds, List.forall_mem_cons.mpr ⟨ck_X8_isFalse, List.forall_mem_cons.mpr ⟨ck_X9_type, List.forall_mem_cons.mpr ⟨ck_X9_clear, List.forall_mem_cons.mpr ⟨ck_X9_gang, List.forall_mem_cons.mpr ⟨ck_X9_digger, List.forall_mem_cons.mpr ⟨ck_X9_spade, List.forall_mem_cons.mpr ⟨ck_X9_yard, List.forall_mem_cons.mpr ⟨ck_X9_may, List.forall_mem_cons.mpr ⟨ck_X9_throwWith, List.forall_mem_cons.mpr ⟨ck_X9_ends, List.forall_mem_cons.mpr ⟨ck_X9_breaks, List.forall_mem_cons.mpr ⟨ck_X9_now, fun _ h => absurd h List.not_mem_nil⟩⟩⟩⟩⟩⟩⟩⟩⟩⟩⟩⟩⟩⟩⟩⟩⟩⟩⟩⟩⟩⟩⟩⟩⟩⟩⟩⟩⟩⟩⟩⟩⟩⟩⟩⟩⟩⟩⟩⟩⟩⟩⟩⟩⟩⟩⟩⟩
theorem cwT2 : ∀ q ∈ mT_2, Cond.code q.1 q.2.1 q.2.2.1 q.2.2.2.1 ∈ lw_tbl := List.forall_mem_cons.mpr ⟨cw_X9_anew, List.forall_mem_cons.mpr ⟨cw_X9_longest, List.forall_mem_cons.mpr ⟨cw_X9_begins, List.forall_mem_cons.mpr ⟨cw_X9_most, List.forall_mem_cons.mpr ⟨cw_X9_rings, List.forall_mem_cons.mpr ⟨cw_X9_meeting, List.forall_mem_cons.mpr ⟨cw_X9_songs, List.forall_mem_cons.mpr ⟨cw_X9_hole, List.forall_mem_cons.mpr ⟨cw_X9_night, List.forall_mem_cons.mpr ⟨cw_X9_least, List.forall_mem_cons.mpr ⟨cw_X9_dry, List.forall_mem_cons.mpr ⟨cw_X9_tell, List.forall_mem_cons.mpr ⟨cw_X9_cheats, List.forall_mem_cons.mpr ⟨cw_X9_mark, List.forall_mem_cons.mpr ⟨cw_X9_keep, List.forall_mem_cons.mpr ⟨cw_X9_back, List.forall_mem_cons.mpr ⟨cw_X9_count, List.forall_mem_cons.mpr ⟨cw_X9_trace, List.forall_mem_cons.mpr ⟨cw_X9_imageAt, List.forall_mem_cons.mpr ⟨cw_X9_markAsPerson, List.forall_mem_cons.mpr ⟨cw_X9_markAsDigger, List.forall_mem_cons.mpr ⟨cw_X9_markAsSinger, List.forall_mem_cons.mpr ⟨cw_X9_markAsLeft, List.forall_mem_cons.mpr ⟨cw_X9_markAsProphet, List.forall_mem_cons.mpr ⟨cw_X9_markAsSlow, List.forall_mem_cons.mpr ⟨cw_X9_within, List.forall_mem_cons.mpr ⟨cw_X9_hasBit, List.forall_mem_cons.mpr ⟨cw_X9_asNumber, List.forall_mem_cons.mpr ⟨cw_X9_cell, List.forall_mem_cons.mpr ⟨cw_X9_put, List.forall_mem_cons.mpr ⟨cw_X9_fill, List.forall_mem_cons.mpr ⟨cw_X9_copy, List.forall_mem_cons.mpr ⟨cw_X9_quotient, List.forall_mem_cons.mpr ⟨cw_X9_remainder, List.forall_mem_cons.mpr ⟨cw_X10_in, List.forall_mem_cons.mpr ⟨cw_X10_type, List.forall_mem_cons.mpr ⟨cw_X10_clear, List.forall_mem_cons.mpr ⟨cw_X10_here, List.forall_mem_cons.mpr ⟨cw_X10_meaning, List.forall_mem_cons.mpr ⟨cw_X10_next, List.forall_mem_cons.mpr ⟨cw_X10_due, List.forall_mem_cons.mpr ⟨cw_X10_number, List.forall_mem_cons.mpr ⟨cw_X10_side, List.forall_mem_cons.mpr ⟨cw_X10_readItem, List.forall_mem_cons.mpr ⟨cw_X10_gang, List.forall_mem_cons.mpr ⟨cw_X10_isDigger, List.forall_mem_cons.mpr ⟨cw_X10_isSpade, List.forall_mem_cons.mpr ⟨cw_X10_bitsIn, fun _ h => absurd h List.not_mem_nil⟩⟩⟩⟩⟩⟩⟩⟩⟩⟩⟩⟩⟩⟩⟩⟩⟩⟩⟩⟩⟩⟩⟩⟩⟩⟩⟩⟩⟩⟩⟩⟩⟩⟩⟩⟩⟩⟩⟩⟩⟩⟩⟩⟩⟩⟩⟩⟩
theorem ckT2 : ∀ q ∈ mT_2, mChk mT q.1.cls q.2.1 q.2.2.2.2.2.2.2 = true := List.forall_mem_cons.mpr ⟨ck_X9_anew, List.forall_mem_cons.mpr ⟨ck_X9_longest, List.forall_mem_cons.mpr ⟨ck_X9_begins, List.forall_mem_cons.mpr ⟨ck_X9_most, List.forall_mem_cons.mpr ⟨ck_X9_rings, List.forall_mem_cons.mpr ⟨ck_X9_meeting, List.forall_mem_cons.mpr ⟨ck_X9_songs, List.forall_mem_cons.mpr ⟨ck_X9_hole, List.forall_mem_cons.mpr ⟨ck_X9_night, List.forall_mem_cons.mpr ⟨ck_X9_least, List.forall_mem_cons.mpr ⟨ck_X9_dry, List.forall_mem_cons.mpr ⟨ck_X9_tell, List.forall_mem_cons.mpr ⟨ck_X9_cheats, List.forall_mem_cons.mpr ⟨ck_X9_mark, List.forall_mem_cons.mpr ⟨ck_X9_keep, List.forall_mem_cons.mpr ⟨ck_X9_back, List.forall_mem_cons.mpr ⟨ck_X9_count, List.forall_mem_cons.mpr ⟨ck_X9_trace, List.forall_mem_cons.mpr ⟨ck_X9_imageAt, List.forall_mem_cons.mpr ⟨ck_X9_markAsPerson, List.forall_mem_cons.mpr ⟨ck_X9_markAsDigger, List.forall_mem_cons.mpr ⟨ck_X9_markAsSinger, List.forall_mem_cons.mpr ⟨ck_X9_markAsLeft, List.forall_mem_cons.mpr ⟨ck_X9_markAsProphet, List.forall_mem_cons.mpr ⟨ck_X9_markAsSlow, List.forall_mem_cons.mpr ⟨ck_X9_within, List.forall_mem_cons.mpr ⟨ck_X9_hasBit, List.forall_mem_cons.mpr ⟨ck_X9_asNumber, List.forall_mem_cons.mpr ⟨ck_X9_cell, List.forall_mem_cons.mpr ⟨ck_X9_put, List.forall_mem_cons.mpr ⟨ck_X9_fill, List.forall_mem_cons.mpr ⟨ck_X9_copy, List.forall_mem_cons.mpr ⟨ck_X9_quotient, List.forall_mem_cons.mpr ⟨ck_X9_remainder, List.forall_mem_cons.mpr ⟨ck_X10_in, List.forall_mem_cons.mpr ⟨ck_X10_type, List.forall_mem_cons.mpr ⟨ck_X10_clear, List.forall_mem_cons.mpr ⟨ck_X10_here, List.forall_mem_cons.mpr ⟨ck_X10_meaning, List.forall_mem_cons.mpr ⟨ck_X10_next, List.forall_mem_cons.mpr ⟨ck_X10_due, List.forall_mem_cons.mpr ⟨ck_X10_number, List.forall_mem_cons.mpr ⟨ck_X10_side, List.forall_mem_cons.mpr ⟨ck_X10_readItem, List.forall_mem_cons.mpr ⟨ck_X10_gang, List.forall_mem_cons.mpr ⟨ck_X10_isDigger, List.forall_mem_cons.mpr ⟨ck_X10_isSpade, List.forall_mem_cons.mpr ⟨ck_X10_bitsIn, fun _ h => absurd h List.not_mem_nil⟩⟩⟩⟩⟩⟩⟩⟩⟩⟩⟩⟩⟩⟩⟩⟩⟩⟩⟩⟩⟩⟩⟩⟩⟩⟩⟩⟩⟩⟩⟩⟩⟩⟩⟩⟩⟩⟩⟩⟩⟩⟩⟩⟩⟩⟩⟩⟩
theorem cwT3 : ∀ q ∈ mT_3, Cond.code q.1 q.2.1 q.2.2.1 q.2.2.2.1 ∈ lw_tbl := List.forall_mem_cons.mpr ⟨cw_X10_digger, List.forall_mem_cons.mpr ⟨cw_X10_spade, List.forall_mem_cons.mpr ⟨cw_X10_yard, List.forall_mem_cons.mpr ⟨cw_X10_mayNow, List.forall_mem_cons.mpr ⟨cw_X10_may, List.forall_mem_cons.mpr ⟨cw_X10_yardNow, List.forall_mem_cons.mpr ⟨cw_X10_throwWith, List.forall_mem_cons.mpr ⟨cw_X10_ends, List.forall_mem_cons.mpr ⟨cw_X10_breaks, List.forall_mem_cons.mpr ⟨cw_X10_now, List.forall_mem_cons.mpr ⟨cw_X10_anew, List.forall_mem_cons.mpr ⟨cw_X10_findEdges, List.forall_mem_cons.mpr ⟨cw_X10_begin, List.forall_mem_cons.mpr ⟨cw_X10_weight, List.forall_mem_cons.mpr ⟨cw_X10_findWays, List.forall_mem_cons.mpr ⟨cw_X10_augment, List.forall_mem_cons.mpr ⟨cw_X10_isLong, List.forall_mem_cons.mpr ⟨cw_X10_longestBy, List.forall_mem_cons.mpr ⟨cw_X10_longest, List.forall_mem_cons.mpr ⟨cw_X10_isUsed, List.forall_mem_cons.mpr ⟨cw_X10_leaves, List.forall_mem_cons.mpr ⟨cw_X10_begins, List.forall_mem_cons.mpr ⟨cw_X10_most, List.forall_mem_cons.mpr ⟨cw_X10_dugBy, List.forall_mem_cons.mpr ⟨cw_X10_part, List.forall_mem_cons.mpr ⟨cw_X10_isAhead, List.forall_mem_cons.mpr ⟨cw_X10_rings, List.forall_mem_cons.mpr ⟨cw_X10_stroke, List.forall_mem_cons.mpr ⟨cw_X10_allLeft, List.forall_mem_cons.mpr ⟨cw_X10_meeting, List.forall_mem_cons.mpr ⟨cw_X10_songs, List.forall_mem_cons.mpr ⟨cw_X10_hole, List.forall_mem_cons.mpr ⟨cw_X10_nextHole, List.forall_mem_cons.mpr ⟨cw_X10_isClosed, List.forall_mem_cons.mpr ⟨cw_X10_night, List.forall_mem_cons.mpr ⟨cw_X10_least, List.forall_mem_cons.mpr ⟨cw_X10_dry, List.forall_mem_cons.mpr ⟨cw_X10_tell, List.forall_mem_cons.mpr ⟨cw_X10_isFalse, List.forall_mem_cons.mpr ⟨cw_X10_cheats, List.forall_mem_cons.mpr ⟨cw_X10_mark, List.forall_mem_cons.mpr ⟨cw_X10_copy, List.forall_mem_cons.mpr ⟨cw_X10_keep, List.forall_mem_cons.mpr ⟨cw_X10_back, List.forall_mem_cons.mpr ⟨cw_X10_count, List.forall_mem_cons.mpr ⟨cw_X10_trace, fun _ h => absurd h List.not_mem_nil⟩⟩⟩⟩⟩⟩⟩⟩⟩⟩⟩⟩⟩⟩⟩⟩⟩⟩⟩⟩⟩⟩⟩⟩⟩⟩⟩⟩⟩⟩⟩⟩⟩⟩⟩⟩⟩⟩⟩⟩⟩⟩⟩⟩⟩⟩
theorem ckT3 : ∀ q ∈ mT_3, mChk mT q.1.cls q.2.1 q.2.2.2.2.2.2.2 = true := List.forall_mem_cons.mpr ⟨ck_X10_digger, List.forall_mem_cons.mpr ⟨ck_X10_spade, List.forall_mem_cons.mpr ⟨ck_X10_yard, List.forall_mem_cons.mpr ⟨ck_X10_mayNow, List.forall_mem_cons.mpr ⟨ck_X10_may, List.forall_mem_cons.mpr ⟨ck_X10_yardNow, List.forall_mem_cons.mpr ⟨ck_X10_throwWith, List.forall_mem_cons.mpr ⟨ck_X10_ends, List.forall_mem_cons.mpr ⟨ck_X10_breaks, List.forall_mem_cons.mpr ⟨ck_X10_now, List.forall_mem_cons.mpr ⟨ck_X10_anew, List.forall_mem_cons.mpr ⟨ck_X10_findEdges, List.forall_mem_cons.mpr ⟨ck_X10_begin, List.forall_mem_cons.mpr ⟨ck_X10_weight, List.forall_mem_cons.mpr ⟨ck_X10_findWays, List.forall_mem_cons.mpr ⟨ck_X10_augment, List.forall_mem_cons.mpr ⟨ck_X10_isLong, List.forall_mem_cons.mpr ⟨ck_X10_longestBy, List.forall_mem_cons.mpr ⟨ck_X10_longest, List.forall_mem_cons.mpr ⟨ck_X10_isUsed, List.forall_mem_cons.mpr ⟨ck_X10_leaves, List.forall_mem_cons.mpr ⟨ck_X10_begins, List.forall_mem_cons.mpr ⟨ck_X10_most, List.forall_mem_cons.mpr ⟨ck_X10_dugBy, List.forall_mem_cons.mpr ⟨ck_X10_part, List.forall_mem_cons.mpr ⟨ck_X10_isAhead, List.forall_mem_cons.mpr ⟨ck_X10_rings, List.forall_mem_cons.mpr ⟨ck_X10_stroke, List.forall_mem_cons.mpr ⟨ck_X10_allLeft, List.forall_mem_cons.mpr ⟨ck_X10_meeting, List.forall_mem_cons.mpr ⟨ck_X10_songs, List.forall_mem_cons.mpr ⟨ck_X10_hole, List.forall_mem_cons.mpr ⟨ck_X10_nextHole, List.forall_mem_cons.mpr ⟨ck_X10_isClosed, List.forall_mem_cons.mpr ⟨ck_X10_night, List.forall_mem_cons.mpr ⟨ck_X10_least, List.forall_mem_cons.mpr ⟨ck_X10_dry, List.forall_mem_cons.mpr ⟨ck_X10_tell, List.forall_mem_cons.mpr ⟨ck_X10_isFalse, List.forall_mem_cons.mpr ⟨ck_X10_cheats, List.forall_mem_cons.mpr ⟨ck_X10_mark, List.forall_mem_cons.mpr ⟨ck_X10_copy, List.forall_mem_cons.mpr ⟨ck_X10_keep, List.forall_mem_cons.mpr ⟨ck_X10_back, List.forall_mem_cons.mpr ⟨ck_X10_count, List.forall_mem_cons.mpr ⟨ck_X10_trace, fun _ h => absurd h List.not_mem_nil⟩⟩⟩⟩⟩⟩⟩⟩⟩⟩⟩⟩⟩⟩⟩⟩⟩⟩⟩⟩⟩⟩⟩⟩⟩⟩⟩⟩⟩⟩⟩⟩⟩⟩⟩⟩⟩⟩⟩⟩⟩⟩⟩⟩⟩⟩
theorem cwT : ∀ q ∈ mT, Cond.code q.1 q.2.1 q.2.2.1 q.2.2.2.1 ∈ lw_tbl := by
  intro q hq
  have h : q ∈ mT_0 ++ (mT_1 ++ (mT_2 ++ mT_3)) := hq
  simp only [List.mem_append] at h
  rcases h with h | h | h | h
  · exact cwT0 q h
  · exact cwT1 q h
  · exact cwT2 q h
  · exact cwT3 q h
theorem ckT : ∀ q ∈ mT, mChk mT q.1.cls q.2.1 q.2.2.2.2.2.2.2 = true := by
  intro q hq
  have h : q ∈ mT_0 ++ (mT_1 ++ (mT_2 ++ mT_3)) := hq
  simp only [List.mem_append] at h
  rcases h with h | h | h | h
  · exact ckT0 q h
  · exact ckT1 q h
  · exact ckT2 q h
  · exact ckT3 q h
theorem vwCl_sub : ∀ q ∈ vwCl, (∀ k, k < q.2.2 → (parseFieldDescriptor (q.2.1 k).2.2.1).isSome = true) := by decide +kernel
theorem vwCl_nm : ∀ q ∈ vwCl, ∀ a, a < q.2.2 → ∀ b, b < q.2.2 → a ≠ b → (q.2.1 a).2.1 ≠ (q.2.1 b).2.1 := List.forall_mem_cons.mpr ⟨nmX0, List.forall_mem_cons.mpr ⟨nmX1, List.forall_mem_cons.mpr ⟨nmX2, List.forall_mem_cons.mpr ⟨nmX3, List.forall_mem_cons.mpr ⟨nmX4, List.forall_mem_cons.mpr ⟨nmX5, List.forall_mem_cons.mpr ⟨nmX6, List.forall_mem_cons.mpr ⟨nmX7, List.forall_mem_cons.mpr ⟨nmX8, List.forall_mem_cons.mpr ⟨nmX9, List.forall_mem_cons.mpr ⟨nmX10, fun _ h => absurd h List.not_mem_nil⟩⟩⟩⟩⟩⟩⟩⟩⟩⟩⟩
theorem vwCl_ty {c : Nat} {q : vw_C} (h : vwCl[c]? = some q) : ∃ ty0 : Nat → FieldType, ∀ k, k < q.2.2 → parseFieldDescriptor (q.2.1 k).2.2.1 = some (ty0 k) := by
  refine ⟨fun k => (parseFieldDescriptor (q.2.1 k).2.2.1).getD .int, fun k hk => ?_⟩
  have h1 := vwCl_sub q (List.mem_of_getElem? h) k hk
  obtain ⟨v, hv⟩ := Option.isSome_iff_exists.mp h1
  show _ = some ((parseFieldDescriptor (q.2.1 k).2.2.1).getD .int)
  rw [hv]
  rfl
def mKind (k : Nat) (d : String) (fin : Bool) : Bool := match k with
  | 0 => decide (d = "I") && !fin
  | 5 => decide (d = "Z") && !fin
  | 1 => decide (d = "J") && !fin
  | 3 => decide (d = "LSpadeRings$Gang;") && !fin
  | 2 => true
  | _ => false
def layChk (p : Nat) : Bool := match lay p with
  | (4, c, fs) => match vwCl[c]? with
    | some q => Nat.beq fs.length q.2.2 && (List.range q.2.2).all (fun k => mKind (fs.getD k (0, 0)).1 (q.2.1 k).2.2.1 (q.2.1 k).2.2.2)
    | none => false
  | _ => true
theorem layChk_ok : ∀ p, p < 86 → layChk p = true := by decide +kernel
theorem lay_obj {p c : Nat} {fs : List (Nat × Nat)} (h : lay p = (4, c, fs)) : p < 86 ∧ ∃ q : vw_C, vwCl[c]? = some q ∧ fs.length = q.2.2 ∧ ∀ k, k < q.2.2 → mKind (fs.getD k (0, 0)).1 (q.2.1 k).2.2.1 (q.2.1 k).2.2.2 = true := by
  have hp : p < 86 := lay_lt (by rw [h]; simp)
  have h1 := layChk_ok p hp
  unfold layChk at h1
  rw [h] at h1
  simp only at h1
  cases hq : vwCl[c]? with
  | none => rw [hq] at h1; cases h1
  | some q =>
    rw [hq] at h1
    simp only [Bool.and_eq_true] at h1
    refine ⟨hp, q, rfl, Nat.eq_of_beq_eq_true h1.1, fun k hk => ?_⟩
    exact List.all_eq_true.mp h1.2 k (List.mem_range.mpr hk)
/-- what a checked call says -/
theorem chk_callS {own : String} {idx len z n : Nat} {t : List Nat} {cst : Int} (h : mChkL mT own (.invokestatic idx, len, z :: n :: t, cst) = true) : ∃ q, mT[z]? = some q ∧ q.2.2.2.2.1 = n ∧ ((Cond.methodLink own idx q.1 ∈ lw_G) ∨ (Cond.methodLinkNest own idx q.1 "SpadeRings" ∈ lw_G)) ∧ Cond.static q.1 ∈ lw_G := by
  have key : ∀ (f : MethodName → Bool) (A : MethodName → Prop), (∀ y, f y = true → A y) → mChkC mT own idx z n f = true → ∃ q, mT[z]? = some q ∧ q.2.2.2.2.1 = n ∧ A q.1 := by
    intro f A hf hc
    unfold mChkC at hc
    cases hz : mT[z]? with
    | none => rw [hz] at hc; cases hc
    | some q =>
      rw [hz] at hc
      simp only [Bool.and_eq_true] at hc
      exact ⟨q, rfl, Nat.eq_of_beq_eq_true hc.1, hf _ hc.2⟩
  match t, h with
  | [], h => exact absurd h (by simp [mChkL])
  | [_], h => exact absurd h (by simp [mChkL])
  | [_, _], h => exact absurd h (by simp [mChkL])
  | [0, w, ws], h =>
    obtain ⟨q, h1, h2, h3, h4⟩ := key (fun y => mWd w (.methodLink own idx y) && mWd ws (.static y)) (fun y => Cond.methodLink own idx y ∈ lw_G ∧ Cond.static y ∈ lw_G) (fun y hy => by
      rw [Bool.and_eq_true] at hy
      exact ⟨lw_G_in (mWd_in hy.1) rfl, lw_G_in (mWd_in hy.2) rfl⟩) h
    exact ⟨q, h1, h2, Or.inl h3, h4⟩
  | [1, w, ws], h =>
    obtain ⟨q, h1, h2, h3, h4⟩ := key (fun y => mWd w (.methodLinkNest own idx y "SpadeRings") && mWd ws (.static y)) (fun y => Cond.methodLinkNest own idx y "SpadeRings" ∈ lw_G ∧ Cond.static y ∈ lw_G) (fun y hy => by
      rw [Bool.and_eq_true] at hy
      exact ⟨lw_G_in (mWd_in hy.1) rfl, lw_G_in (mWd_in hy.2) rfl⟩) h
    exact ⟨q, h1, h2, Or.inr h3, h4⟩
  | [_ + 2, _, _], h => exact absurd h (by simp [mChkL])
  | _ :: _ :: _ :: _ :: _, h => exact absurd h (by simp [mChkL])
theorem chk_callV {own : String} {idx len z n ci : Nat} {t : List Nat} {cst : Int} (h : mChkL mT own (.invokevirtual idx, len, z :: n :: ci :: t, cst) = true) : ∃ q, mT[z]? = some q ∧ q.2.2.2.2.1 = n ∧ (Cond.methodLink own idx q.1 ∈ lw_G) ∧ Cond.instanceMethod q.1 ∈ lw_G ∧ Cond.selects q.1.cls q.1 q.1 ∈ lw_G ∧ (if ci = 50 then q.1.cls = "java/lang/String" else ∃ r : vw_C, vwCl[ci]? = some r ∧ q.1.cls = r.1) := by
  match t, h with
  | [], h => exact absurd h (by simp [mChkL])
  | [_], h => exact absurd h (by simp [mChkL])
  | [_, _], h => exact absurd h (by simp [mChkL])
  | [w, wi, ws], h =>
    unfold mChkL at h
    simp only at h
    unfold mChkC at h
    cases hz : mT[z]? with
    | none => rw [hz] at h; cases h
    | some q =>
      rw [hz] at h
      simp only [Bool.and_eq_true] at h
      obtain ⟨h1, ⟨⟨h2, h3⟩, h4⟩, h5⟩ := h
      refine ⟨q, rfl, Nat.eq_of_beq_eq_true h1, lw_G_in (mWd_in h2) rfl, lw_G_in (mWd_in h3) rfl, lw_G_in (mWd_in h4) rfl, ?_⟩
      by_cases hc : ci = 50
      · rw [if_pos hc] at h5 ⊢
        exact of_decide_eq_true h5
      · rw [if_neg hc] at h5 ⊢
        cases hr : vwCl[ci]? with
        | none => rw [hr] at h5; cases h5
        | some r => rw [hr] at h5; exact ⟨r, rfl, of_decide_eq_true h5⟩
  | _ :: _ :: _ :: _ :: _, h => exact absurd h (by simp [mChkL])
/-- what a checked method says -/
theorem chk_M {q : mM} (h : q ∈ mT) : Cond.code q.1 q.2.1 q.2.2.1 q.2.2.2.1 ∈ lw_G ∧ Cond.initialized q.1.cls ∈ lw_G ∧ (parseMethodDescriptor q.1.desc).map (fun d => d.parameters.length) = some q.2.2.2.2.1 ∧ plainFor q.1 = true ∧ q.1.cls ≠ "java/lang/invoke/MethodHandle" ∧ q.1.cls ≠ "java/lang/invoke/VarHandle" ∧ q.2.2.1 ≤ 40 := by
  have h1 := mT_ok q h
  obtain ⟨y, b, mx, rt, np, wc, wi, P⟩ := q
  unfold mChkM at h1
  simp only [Bool.and_eq_true] at h1
  obtain ⟨⟨⟨⟨⟨h2, h3⟩, h4⟩, h5⟩, h6⟩, h7⟩ := h1
  exact ⟨lw_G_in (cwT _ h) rfl, lw_G_in (mWd_in h2) rfl, of_decide_eq_true h3, h4, of_decide_eq_true h5, of_decide_eq_true h6, Nat.le_of_ble_eq_true h7⟩
theorem mAtL_mem {l : List (Nat × mE)} {pc : Nat} {e : mE} (h : mAtL l pc = some e) : (pc, e) ∈ l := by
  induction l with
  | nil => cases h
  | cons a l ih =>
    obtain ⟨k, x⟩ := a
    unfold mAtL at h
    by_cases hk : Nat.beq k pc = true
    · rw [hk] at h
      simp only [cond_true] at h
      cases h
      rw [Nat.eq_of_beq_eq_true hk]
      exact List.mem_cons_self
    · rw [Bool.not_eq_true] at hk
      rw [hk] at h
      simp only [cond_false] at h
      exact List.mem_cons_of_mem _ (ih h)
end
section
/-! FROM THE SMALL MACHINE TO THE LARGE ONE, 3: one step -/
theorem mCell_4 {G : mG} {st : mSt} {p c : Nat} {fs : List (Nat × Nat)} (h : lay p = (4, c, fs)) : mCell G st p = .inr (c, (List.range fs.length).map (fun k => mTr G (mFld st p k (fs.getD k (0, 0))))) := by
  unfold mCell
  rw [h]
  rfl
theorem mCell_0 {G : mG} {st : mSt} {p n : Nat} {fs : List (Nat × Nat)} (h : lay p = (0, n, fs)) : mCell G st p = .inl (G.2.2.1 0, n, .inl (st.1 p)) := by
  unfold mCell
  rw [h]
  rfl
theorem mCell_1 {G : mG} {st : mSt} {p n : Nat} {fs : List (Nat × Nat)} (h : lay p = (1, n, fs)) : mCell G st p = .inl (G.2.2.1 1, n, .inl (st.1 p)) := by
  unfold mCell
  rw [h]
  rfl
theorem mCell_2 {G : mG} {st : mSt} {p n : Nat} {fs : List (Nat × Nat)} (h : lay p = (2, n, fs)) : mCell G st p = .inl (G.2.2.1 2, n, .inl (st.1 p)) := by
  unfold mCell
  rw [h]
  rfl
theorem mCell_3 {G : mG} {st : mSt} {p n : Nat} {fs : List (Nat × Nat)} (h : lay p = (3, n, fs)) : mCell G st p = .inl (G.2.2.1 3, n, .inr (.inr (.inr (.inr (fun j => (fs[j]?).map (fun f => G.2.1 f.2)))))) := by
  unfold mCell
  rw [h]
  rfl
section MSTEP
variable {p : Program} {l : Launch} {e : Env} {R : Room} {s : State} {m : MethodId} {args : Array Value} {below : List Frame} {meth : Method} {c : Code} {H : Heap} {locs : List Loc} {cells slots : Nat} {Qw : State → Prop}
variable {G : mG} {cc : ByteArray} {own : String} {nL : Nat} {S : Nat × (Nat → Int32)}
def mFix (p : Program) (s : State) (m : MethodId) (args : Array Value) (c : Code) (cc : ByteArray) (nL : Nat) (own : String) (G : mG) (S : Nat × (Nat → Int32)) : Prop :=
  p.tables.exec = Jvm.exec ∧ c.code = cc ∧ c.maxLocals = nL ∧ s.vm.findClass own = some m.cls ∧ (∀ w ∈ lw_G, w.before args s = true) ∧ va_K G.1 vwCl (mTys G) s ∧ mSR G s ∧
  (S.1 = 0 ∨ (va_X (G.2.1 120) (S.1 - 1) S.2 s s.heap ∧ G.2.1 120 < s.heap.size ∧ ¬ mA G (G.2.1 120)))
theorem mS_run {v : Option Value} {st1 : mSt} {rest st0 : List Value} {pc : Nat} {ls : Array Slot} {a : Array Value} (hr : va_Run p l e R s m args below meth c H locs cells slots 0 0 (F0 m pc ls st0) rest (mQc G v st1 a) (mA G)) (hS : va_S (mA G) s.heap H locs)
    (kk : ∀ (H1 : Heap) (locs1 : List Loc), va_P G.1 vwCl (mWs G st1) H1 → va_S (mA G) s.heap H1 locs1 → W p l e R s m args below meth c H1 locs1 cells slots Qw (F0 m (pc + 3) ls ((v.map (mTr G)).toList ++ rest))) : W p l e R s m args below meth c H locs cells slots Qw (F0 m pc ls st0) := by
  intro T hT X
  obtain ⟨v', st₀, t, T', L, h0, X', hL, e1, e2, ⟨hv, hB, hz, hk⟩, st⟩ := hr T hT X
  cases hv
  rw [h0] at hz hk
  obtain ⟨t2, a1, b1⟩ := kk T'.heap (locs ++ L) (by rw [e1]; exact hB.1)
    ⟨Nat.le_trans hS.1 (by rw [e1]; exact hz), fun q h1 h2 => by rw [e1, hk q (Nat.lt_of_lt_of_le h1 hS.1) h2]; exact hS.2.1 q h1 h2, fun q hq => by
      rcases List.mem_append.mp hq with h | h
      · exact hS.2.2 q h
      · exact hL q h⟩ T' rfl X'
  exact ⟨t2, st t2 a1, b1⟩
/-- what a call needs to be met -/
def mCs (l : Launch) (G : mG) (d : Nat) (C : Nat → List Value → mSt → Option Value → mSt → Prop) : Prop := ∀ (z : Nat) (q : mM), mT[z]? = some q → ∀ (As : List Value) (st : mSt) (v : Option Value) (st1 : mSt), C z As st v st1 → Met l q.1 (.code q.1 q.2.1 q.2.2.1 q.2.2.2.1 :: lw_G) (mRm d) (va_Pc (As.map (mTr G)) (mWB G st)) (mQc G v st1) 0 0 (mA G)
theorem mS_callS {C : Nat → List Value → mSt → Option Value → mSt → Prop} {d : Nat} (F : mFix p s m args c cc nL own G S) (hC : mCs l G d C) (hR : d + 1 ≤ R.frames ∧ 59 + 64 * d ≤ R.locals) (hcs : cells ≤ R.cells ∧ slots ≤ R.slots)
    {idx len z n : Nat} {t : List Nat} {cst : Int} (hchk : mChkL mT own (.invokestatic idx, len, z :: n :: t, cst) = true) {pc : Nat} {lsA : Array Slot} (hsz : lsA.size = nL) (hdg : decode cc pc = .ok (.invokestatic idx, 3)) {sk : List Value} {st : mSt} {v : Option Value} {st1 : mSt}
    (hn : n ≤ sk.length) (hcat : mCat (sk.drop n) ≤ 8) (hz : C z (sk.take n).reverse st v st1) (hP : va_P G.1 vwCl (mWs G st) H) (hS : va_S (mA G) s.heap H locs)
    (kk : ∀ (H1 : Heap) (locs1 : List Loc), va_P G.1 vwCl (mWs G st1) H1 → va_S (mA G) s.heap H1 locs1 → W p l e R s m args below meth c H1 locs1 cells slots Qw (F0 m (pc + 3) lsA ((v.toList ++ sk.drop n).map (mTr G)))) : W p l e R s m args below meth c H locs cells slots Qw (F0 m pc lsA (sk.map (mTr G))) := by
  obtain ⟨hx, hb, hml, hown, hts, hK, hSR, -⟩ := F
  obtain ⟨q, hq, hnp, hlink, hstat⟩ := chk_callS hchk
  obtain ⟨k1, k2, k3, k4, k5, k6, k7⟩ := chk_M (List.mem_of_getElem? hq)
  have hF := hSR.2.2.2.2.2
  have hM := hC z q hq _ st v st1 hz
  have hws : ∀ w ∈ Cond.code q.1 q.2.1 q.2.2.1 q.2.2.2.1 :: lw_G, ∀ (a' : Array Value) (U : State), s.WarmedH U.vm → w.before a' U = true := by
    intro w hw a' U hW
    have hw' : w ∈ lw_G := by
      rcases List.mem_cons.mp hw with h | h
      · rw [h]; exact k1
      · exact h
    exact lw_warm (List.mem_filter.mp hw').2 hW (hts w hw')
  have hPre : ∀ U : State, U.heap = H → s.WarmedH U.vm → va_Pc ((sk.take n).reverse.map (mTr G)) (mWB G st) ((sk.take n).reverse.map (mTr G)).toArray U := fun U hU hW =>
    ⟨rfl, by rw [hU]; exact hP, va_K.moved hW.alike hK, mSR_go hU hW hS hSR⟩
  have hlen : ((sk.take n).reverse.map (mTr G)).length = n := by
    rw [List.length_map, List.length_reverse, List.length_take]; omega
  have hst : sk.map (mTr G) = ((sk.take n).reverse.map (mTr G)).reverse ++ (sk.drop n).map (mTr G) := by
    rw [← List.map_reverse, List.reverse_reverse, ← List.map_append, List.take_append_drop]
  have hroom : (((sk.drop n).map (mTr G)).map fun v => v.category).sum ≤ 8 := by rw [mTr_cats hF]; exact hcat
  have hsig : ∀ sig, parseMethodDescriptor q.1.desc = some sig → n = sig.parameters.length := by
    intro sig h
    rw [h] at k3
    exact hnp.symm.trans (Option.some.inj k3).symm
  have fin : va_Run p l e R s m args below meth c H locs cells slots 0 0 (F0 m pc lsA (sk.map (mTr G))) ((sk.drop n).map (mTr G)) (mQc G v st1 ((sk.take n).reverse.map (mTr G)).toArray) (mA G) := by
    rcases hlink with hl | hl
    · exact va_runS (Ts := lw_G) ⟨hx, hb, hml, hown, hts⟩ hM ⟨⟨rfl, rfl, hR.1, by show 8 + (q.2.2.1 + 11) + 64 * d ≤ R.locals; omega, hws, List.mem_cons_self, hts _ k1, hts _ k2, ⟨k5, k6⟩, hsig, hts _ hl⟩, hts _ hstat⟩ ⟨mPc_blind, hPre⟩ rfl hlen hsz hst (lv_room hroom) hdg hcs
    · exact va_runSN (Ts := lw_G) ⟨hx, hb, hml, hown, hts⟩ hM ⟨⟨⟨rfl, rfl, hR.1, by show 8 + (q.2.2.1 + 11) + 64 * d ≤ R.locals; omega, hws, List.mem_cons_self⟩, hts _ k1, hts _ k2, ⟨k5, k6⟩, hsig, hts _ hl⟩, hts _ hstat, trivial⟩ ⟨mPc_blind, hPre⟩ rfl hlen hsz hst (lv_room hroom) hdg hcs
  refine mS_run fin hS (fun H1 locs1 hP1 hS1 => ?_)
  have h9 := kk H1 locs1 hP1 hS1
  rw [List.map_append] at h9
  cases v <;> exact h9
theorem mRecv_at {G : mG} {st : mSt} {ci : Nat} {pl : Nat} {C : String} (hrc : mRecv ci (.ref pl)) (hC : if ci = 50 then C = "java/lang/String" else ∃ r : vw_C, vwCl[ci]? = some r ∧ C = r.1) (hK : va_K G.1 vwCl (mTys G) s) (hSR : mSR G s) (hP : va_P G.1 vwCl (mWs G st) H) (hS : va_S (mA G) s.heap H locs) : pl ≠ 130 ∧ ∃ cell : Cell, H[G.2.1 pl]? = some cell ∧ cell.vm.isStatics = false ∧ s.vm.findClass C = some cell.cls := by
  rcases hrc with ⟨h1, h2⟩ | ⟨h1, h2⟩
  · have hp : pl < 86 := lay_lt (by rw [h1]; decide)
    have hci : ci ≠ 50 := by
      intro h
      have hl : lay pl = (4, 50, (lay pl).2.2) := by rw [← h1, ← h, ← h2]
      obtain ⟨-, q, hq, -⟩ := lay_obj hl
      cases hq
    rw [if_neg hci] at hC
    obtain ⟨r, hr, rfl⟩ := hC
    have hcell : mCell G st pl = .inr (ci, (List.range (lay pl).2.2.length).map (fun k => mTr G (mFld st pl k ((lay pl).2.2.getD k (0, 0))))) := by
      have hl : lay pl = (4, ci, (lay pl).2.2) := by rw [← h1, ← h2]
      exact mCell_4 hl
    exact ⟨by omega, va_recv hK hP hr (q0 := pl) (by rw [mWs_get hp, hcell])⟩
  · subst h2
    rw [if_pos rfl] at hC
    have hl : lay pl = (5, (lay pl).2.1, (lay pl).2.2) := by rw [← h1]
    obtain ⟨h3, h4⟩ := lay_5 hl
    have h9 := vk_recv hSR.2.1 h3 hS
    simp only [← h4] at h9
    rw [hC]
    exact ⟨by omega, h9⟩
theorem mS_callV {C : Nat → List Value → mSt → Option Value → mSt → Prop} {d : Nat} (F : mFix p s m args c cc nL own G S) (hC : mCs l G d C) (hR : d + 1 ≤ R.frames ∧ 59 + 64 * d ≤ R.locals) (hcs : cells ≤ R.cells ∧ slots ≤ R.slots)
    {idx len z n ci : Nat} {t : List Nat} {cst : Int} (hchk : mChkL mT own (.invokevirtual idx, len, z :: n :: ci :: t, cst) = true) {pc : Nat} {lsA : Array Slot} (hsz : lsA.size = nL) (hdg : decode cc pc = .ok (.invokevirtual idx, 3)) {sk : List Value} {st : mSt} {v : Option Value} {st1 : mSt}
    (hn : n + 1 ≤ sk.length) (hcat : mCat (sk.drop (n + 1)) ≤ 8) (hrc : mRecv ci (sk.getD n .null)) (hz : C z (sk.take (n + 1)).reverse st v st1) (hP : va_P G.1 vwCl (mWs G st) H) (hS : va_S (mA G) s.heap H locs)
    (kk : ∀ (H1 : Heap) (locs1 : List Loc), va_P G.1 vwCl (mWs G st1) H1 → va_S (mA G) s.heap H1 locs1 → W p l e R s m args below meth c H1 locs1 cells slots Qw (F0 m (pc + 3) lsA ((v.toList ++ sk.drop (n + 1)).map (mTr G)))) : W p l e R s m args below meth c H locs cells slots Qw (F0 m pc lsA (sk.map (mTr G))) := by
  obtain ⟨hx, hb, hml, hown, hts, hK, hSR, -⟩ := F
  obtain ⟨q, hq, hnp, hlink, hins, hsel, hcl⟩ := chk_callV hchk
  obtain ⟨k1, k2, k3, k4, k5, k6, k7⟩ := chk_M (List.mem_of_getElem? hq)
  have hF := hSR.2.2.2.2.2
  have hM := hC z q hq _ st v st1 hz
  have hws : ∀ w ∈ Cond.code q.1 q.2.1 q.2.2.1 q.2.2.2.1 :: lw_G, ∀ (a' : Array Value) (U : State), s.WarmedH U.vm → w.before a' U = true := by
    intro w hw a' U hW
    have hw' : w ∈ lw_G := by
      rcases List.mem_cons.mp hw with h | h
      · rw [h]; exact k1
      · exact h
    exact lw_warm (List.mem_filter.mp hw').2 hW (hts w hw')
  have hlt : n < sk.length := hn
  obtain ⟨pl, hpl⟩ : ∃ pl, sk.getD n .null = .ref pl := by
    cases hv : sk.getD n .null with
    | ref pl => exact ⟨pl, rfl⟩
    | _ => rw [hv] at hrc; exact hrc.elim
  rw [hpl] at hrc
  obtain ⟨h130, hrecv⟩ := mRecv_at hrc hcl hK hSR hP hS
  have hget : sk[n] = .ref pl := by
    rw [List.getD_eq_getElem?_getD, List.getElem?_eq_getElem hlt] at hpl
    exact hpl
  have htk : (sk.take (n + 1)).reverse = .ref pl :: (sk.take n).reverse := by
    rw [← List.take_append_getElem hlt, List.reverse_append, hget]
    rfl
  have harg : (sk.take (n + 1)).reverse.map (mTr G) = Value.ref (G.2.1 pl) :: (sk.take n).reverse.map (mTr G) := by
    rw [htk, List.map_cons, mTr_ref h130]
  have hPre : ∀ U : State, U.heap = H → s.WarmedH U.vm → va_Pc ((sk.take (n + 1)).reverse.map (mTr G)) (mWB G st) (Value.ref (G.2.1 pl) :: (sk.take n).reverse.map (mTr G)).toArray U := fun U hU hW =>
    ⟨by rw [harg], by rw [hU]; exact hP, va_K.moved hW.alike hK, mSR_go hU hW hS hSR⟩
  have hlen : ((sk.take n).reverse.map (mTr G)).length = n := by
    rw [List.length_map, List.length_reverse, List.length_take]; omega
  have hst : sk.map (mTr G) = ((sk.take n).reverse.map (mTr G)).reverse ++ .ref (G.2.1 pl) :: (sk.drop (n + 1)).map (mTr G) := by
    have h1 : sk = sk.take n ++ sk.drop n := (List.take_append_drop n sk).symm
    have h2 : sk.drop n = .ref pl :: sk.drop (n + 1) := by
      rw [List.drop_eq_getElem_cons hlt, hget]
    rw [h2] at h1
    have h3 := congrArg (List.map (mTr G)) h1
    rw [List.map_append, List.map_cons, mTr_ref h130] at h3
    rw [← List.map_reverse, List.reverse_reverse]
    exact h3
  have hroom : (((sk.drop (n + 1)).map (mTr G)).map fun v => v.category).sum ≤ 8 := by rw [mTr_cats hF]; exact hcat
  have hsig : ∀ sig, parseMethodDescriptor q.1.desc = some sig → n = sig.parameters.length := by
    intro sig h
    rw [h] at k3
    exact hnp.symm.trans (Option.some.inj k3).symm
  have fin : va_Run p l e R s m args below meth c H locs cells slots 0 0 (F0 m pc lsA (sk.map (mTr G))) ((sk.drop (n + 1)).map (mTr G)) (mQc G v st1 (Value.ref (G.2.1 pl) :: (sk.take n).reverse.map (mTr G)).toArray) (mA G) :=
    va_runV (Ts := lw_G) (C := q.1.cls) ⟨hx, hb, hml, hown, hts⟩ hM ⟨⟨rfl, rfl, hR.1, by show 8 + (q.2.2.1 + 11) + 64 * d ≤ R.locals; omega, hws, List.mem_cons_self, hts _ k1, hts _ k2, ⟨k5, k6⟩, hsig, hts _ hlink⟩, hts _ hins, hts _ hsel⟩ ⟨mPc_blind, hrecv, hPre⟩ rfl hlen hsz hst (lv_room hroom) hdg hcs
  refine mS_run fin hS (fun H1 locs1 hP1 hS1 => ?_)
  have h9 := kk H1 locs1 hP1 hS1
  rw [List.map_append] at h9
  cases v <;> exact h9
end MSTEP
end
section
/-! FROM THE SMALL MACHINE TO THE LARGE ONE, 4: each instruction -/
theorem ne130 {a : Nat} (h : a < 86) : a ≠ 130 := by omega
theorem ne130s {i : Nat} (h : i < 5) : 100 + i ≠ 130 := by omega
theorem ne130b {i : Nat} (h : i < 5) : 110 + i ≠ 130 := by omega
def mSw : Instr → Bool
  | .tableswitch _ _ _ _ => true
  | .lookupswitch _ _ => true
  | _ => false
theorem mChkI_dec {cc : ByteArray} {pc : Nat} {e : mE} (h : mChkI cc pc e = true) : decode cc pc = .ok (e.1, e.2.1) := by
  unfold mChkI at h
  rw [Bool.and_eq_true, Bool.and_eq_true] at h
  exact of_decide_eq_true h.1.1
theorem mChkI_len {cc : ByteArray} {pc len : Nat} {i : Instr} {aux : List Nat} {z : Int} (hi : mSw i = false) (h : mChkI cc pc (i, len, aux, z) = true) : decode cc pc = .ok (i, mLen i) := by
  have h1 := mChkI_dec h
  unfold mChkI at h
  rw [Bool.and_eq_true, Bool.and_eq_true] at h
  have h2 := h.1.2
  have h3 : len = mLen i := by
    cases i <;> first | exact Nat.eq_of_beq_eq_true h2 | cases hi
  rw [h1, h3]
theorem mJmp_eq {pc t : Nat} {o : Int} (h : mJmp pc o [t] = true) : (pc : Int) + o = (t : Int) := of_decide_eq_true h
theorem mChkI_jmp {cc : ByteArray} {pc : Nat} {e : mE} (h : mChkI cc pc e = true) : (match e.1 with
  | .goto o => mJmp pc o e.2.2.1
  | .ifCond _ o => mJmp pc o e.2.2.1
  | .if_icmp _ o => mJmp pc o e.2.2.1
  | .ifnull o => mJmp pc o e.2.2.1
  | .ifnonnull o => mJmp pc o e.2.2.1
  | _ => true) = true := by
  unfold mChkI at h
  rw [Bool.and_eq_true] at h
  exact h.2
theorem bif_f {b : Bool} {A : Prop} (h : bif b then False else A) : b = false ∧ A := by
  cases b
  · exact ⟨rfl, h⟩
  · exact h.elim
theorem bif_t {b : Bool} {A : Prop} (h : bif b then A else False) : b = true ∧ A := by
  cases b
  · exact h.elim
  · exact ⟨rfl, h⟩
theorem beq130 {x : Nat} (h : Nat.beq x 130 = false) : x ≠ 130 := fun e => by rw [e] at h; cases h
theorem blt_lt {a b : Nat} (h : Nat.blt a b = true) : a < b := Nat.le_of_ble_eq_true h
theorem mTgt_eq {pc : Nat} {off : Int} (h : mJ pc off) : (pc : Int) + off = ((mTgt pc off : Nat) : Int) := (Int.toNat_of_nonneg h).symm
def mRetI (v : Option Value) : Instr := match v with
  | none => .return_
  | some (.int _) => .ireturn
  | some (.long _) => .lreturn
  | _ => .areturn
theorem chk_get {own : String} {idx len ci k : Nat} {t : List Nat} {cst : Int} (h : mChkL mT own (.getfield idx, len, ci :: k :: t, cst) = true) : (ci = 50 → Cond.fieldLink own idx "java/lang/String" (if k = 0 then "coder" else "value") (if k = 0 then "B" else "[B") ∈ lw_G) ∧ (ci ≠ 50 → ∃ q : vw_C, vwCl[ci]? = some q ∧ k < q.2.2 ∧ Cond.fieldLink own idx (q.2.1 k).1 (q.2.1 k).2.1 (q.2.1 k).2.2.1 ∈ lw_G) := by
  match t, h with
  | [], h => exact absurd h (by simp [mChkL])
  | [w], h =>
    unfold mChkL at h
    simp only at h
    refine ⟨fun hc => ?_, fun hc => ?_⟩
    · rw [if_pos hc] at h
      exact lw_G_in (mWd_in h) rfl
    · rw [if_neg hc] at h
      cases hr : vwCl[ci]? with
      | none => rw [hr] at h; cases h
      | some q =>
        rw [hr] at h
        simp only [Bool.and_eq_true, decide_eq_true_eq] at h
        exact ⟨q, rfl, h.1, lw_G_in (mWd_in h.2) rfl⟩
  | _ :: _ :: _, h => exact absurd h (by simp [mChkL])
theorem chk_put {own : String} {idx len ci k : Nat} {t : List Nat} {cst : Int} (h : mChkL mT own (.putfield idx, len, ci :: k :: t, cst) = true) : ∃ q : vw_C, vwCl[ci]? = some q ∧ k < q.2.2 ∧ Cond.fieldLink own idx (q.2.1 k).1 (q.2.1 k).2.1 (q.2.1 k).2.2.1 ∈ lw_G := by
  match t, h with
  | [], h => exact absurd h (by simp [mChkL])
  | [w], h =>
    unfold mChkL at h
    simp only at h
    cases hr : vwCl[ci]? with
    | none => rw [hr] at h; cases h
    | some q =>
      rw [hr] at h
      simp only [Bool.and_eq_true, decide_eq_true_eq] at h
      exact ⟨q, rfl, h.1, lw_G_in (mWd_in h.2) rfl⟩
  | _ :: _ :: _, h => exact absurd h (by simp [mChkL])
theorem list_at {fs : List (Nat × Nat)} {k : Nat} {f : Nat × Nat} (h : fs[k]? = some f) : k < fs.length ∧ fs.getD k (0, 0) = f := by
  obtain ⟨hl, e⟩ := List.getElem?_eq_some_iff.mp h
  refine ⟨hl, ?_⟩
  rw [List.getD_eq_getElem?_getD, h]
  rfl
theorem fld_at {G : mG} {st : mSt} {p k : Nat} {fs : List (Nat × Nat)} {f : Nat × Nat} (h : fs[k]? = some f) : ((List.range fs.length).map (fun k => mTr G (mFld st p k (fs.getD k (0, 0)))))[k]? = some (mTr G (mFld st p k f)) := by
  obtain ⟨hl, e⟩ := list_at h
  rw [List.getElem?_map, List.getElem?_range hl, Option.map_some, e]
theorem fld_set {G : mG} {st st' : mSt} {p k : Nat} {fs : List (Nat × Nat)} {f : Nat × Nat} {v : Value} (h : fs[k]? = some f) (hv : mTr G (mFld st' p k f) = v) (ho : ∀ j f, j ≠ k → mFld st' p j f = mFld st p j f) : ((List.range fs.length).map (fun k => mTr G (mFld st p k (fs.getD k (0, 0))))).set k v = (List.range fs.length).map (fun k => mTr G (mFld st' p k (fs.getD k (0, 0)))) := by
  obtain ⟨hl, e⟩ := list_at h
  apply List.ext_getElem?
  intro j
  by_cases hj : j < fs.length
  · by_cases hjk : j = k
    · subst hjk
      rw [List.getElem?_set_self (by simpa using hj), List.getElem?_map, List.getElem?_range hj, Option.map_some, e, hv]
    · rw [List.getElem?_set_ne (Ne.symm hjk), List.getElem?_map, List.getElem?_map, List.getElem?_range hj, Option.map_some, Option.map_some, ho j _ hjk]
  · rw [List.getElem?_eq_none (by simpa using hj), List.getElem?_eq_none (by simpa using hj)]
section MROW
variable {p : Program} {l : Launch} {e : Env} {R : Room} {s : State} {m : MethodId} {args : Array Value} {below : List Frame} {meth : Method} {c : Code} {H : Heap} {locs : List Loc} {cells slots : Nat} {Qw : State → Prop}
variable {G : mG} {cc : ByteArray} {own : String} {nL : Nat} {S : Nat × (Nat → Int32)}
/-- 'K' is good: where it holds, the large machine comes to its goal -/
def mKg (p : Program) (l : Launch) (e : Env) (R : Room) (s : State) (m : MethodId) (args : Array Value) (below : List Frame) (meth : Method) (c : Code) (cells slots : Nat) (Qw : State → Prop) (G : mG) (nL : Nat) (K : Nat → mLs → List Value → mSt → Prop) : Prop :=
  ∀ (pc : Nat) (ls : mLs) (sk : List Value) (st : mSt) (H : Heap) (locs : List Loc) (lsA : Array Slot), K pc ls sk st → va_P G.1 vwCl (mWs G st) H → va_S (mA G) s.heap H locs → mLo G lsA nL ls → W p l e R s m args below meth c H locs cells slots Qw (F0 m pc lsA (sk.map (mTr G)))
def mRg (p : Program) (l : Launch) (e : Env) (R : Room) (s : State) (m : MethodId) (args : Array Value) (below : List Frame) (meth : Method) (c : Code) (cells slots : Nat) (Qw : State → Prop) (G : mG) (cc : ByteArray) (rt : Option FieldType) (Q : Option Value → mSt → Prop) : Prop :=
  ∀ (v : Option Value) (st : mSt) (H : Heap) (locs : List Loc) (pc : Nat) (lsA : Array Slot), Q v st → mRet rt v → va_P G.1 vwCl (mWs G st) H → va_S (mA G) s.heap H locs → decode cc pc = .ok (mRetI v, 1) → W p l e R s m args below meth c H locs cells slots Qw (F0 m pc lsA (v.toList.map (mTr G)))
/-- a store to a field -/
theorem mPut {idx len ci k : Nat} {t : List Nat} {cst : Int} (F : mFix p s m args c cc nL own G S) (hchk : mChkL mT own (.putfield idx, len, ci :: k :: t, cst) = true) {pc pl : Nat} {lsA : Array Slot} (hdg : decode cc pc = .ok (.putfield idx, 3)) {st st' : mSt} {fs : List (Nat × Nat)} {f : Nat × Nat} {v : Value} {ty : FieldType} {rest : List Value}
    (hlay : lay pl = (4, ci, fs)) (hf : fs[k]? = some f) (hd : ∀ q : vw_C, vwCl[ci]? = some q → mKind f.1 (q.2.1 k).2.2.1 (q.2.1 k).2.2.2 = true → (q.2.1 k).2.2.2 = false ∧ parseFieldDescriptor (q.2.1 k).2.2.1 = some ty) (hn : narrow ty v = v) (hfit : fits ty v = true)
    (hv : mTr G (mFld st' pl k f) = v) (ho : ∀ j f, j ≠ k → mFld st' pl j f = mFld st pl j f) (ho2 : ∀ q, q ≠ pl → mCell G st' q = mCell G st q) (hP : va_P G.1 vwCl (mWs G st) H) (hS : va_S (mA G) s.heap H locs)
    (kk : ∀ (H1 : Heap) (locs1 : List Loc), va_P G.1 vwCl (mWs G st') H1 → va_S (mA G) s.heap H1 locs1 → W p l e R s m args below meth c H1 locs1 cells slots Qw (F0 m (pc + 3) lsA rest)) : W p l e R s m args below meth c H locs cells slots Qw (F0 m pc lsA (v :: .ref (G.2.1 pl) :: rest)) := by
  obtain ⟨hx, hb, hml, hown, hts, hKK, hSR, -⟩ := F
  obtain ⟨q, hq, hk, hlink⟩ := chk_put hchk
  obtain ⟨hp, q', hq', hlen, hkind⟩ := lay_obj hlay
  cases hq.symm.trans hq'
  have hkd := hkind k hk
  rw [(list_at hf).2] at hkd
  obtain ⟨hfin, hparse⟩ := hd q hq hkd
  obtain ⟨ty0, hty⟩ := vwCl_ty hq
  have hset := mWs_set (G := G) (st := st) (st' := st') (p := pl) hp (mCell_4 hlay) ho2
  rw [← fld_set (st := st) (st' := st') (G := G) hf hv ho] at hset
  refine va_put (D := G.1) (ci := ci) (C := q.1) (T := q.2.1) (N := q.2.2) (ty := ty) hx hb hts (u_ws_G hq) ty0 hty (vwCl_nm q (List.mem_of_getElem? hq)) hown hKK hP (mWs_D hSR.1) hS pl (by rw [mWs_get hp, mCell_4 hlay]) hq k hk (hts _ hlink) (fun _ h => h) hfin hparse hn hfit (by rw [List.length_map, List.length_range, hlen]; exact hk) hdg (fun H1 locs1 h1 h2 h3 => ?_)
  rw [hset] at h1
  exact kk H1 locs1 h1 h3
/-- one step -/
theorem mStep_sound {C : Nat → List Value → mSt → Option Value → mSt → Prop} {d : Nat} (F : mFix p s m args c cc nL own G S) (hC : mCs l G d C) (hR : d + 1 ≤ R.frames ∧ 59 + 64 * d ≤ R.locals) (hcs : cells ≤ R.cells ∧ slots ≤ R.slots)
    {rt : Option FieldType} {Q : Option Value → mSt → Prop} {K : Nat → mLs → List Value → mSt → Prop} (hret : mRg p l e R s m args below meth c cells slots Qw G cc rt Q) (hK : mKg p l e R s m args below meth c cells slots Qw G nL K)
    {e0 : mE} {pc : Nat} (hchk : mChkI cc pc e0 = true) (hlnk : mChkL mT own e0 = true) {ls : mLs} {sk : List Value} {st : mSt} (h : mStep C S rt Q K e0 pc ls sk st) {lsA : Array Slot} (hP : va_P G.1 vwCl (mWs G st) H) (hS : va_S (mA G) s.heap H locs) (hl : mLo G lsA nL ls) :
    W p l e R s m args below meth c H locs cells slots Qw (F0 m pc lsA (sk.map (mTr G))) := by
  obtain ⟨hx, hb, hml, hown, hts, hKK, hSR, hX⟩ := id F
  have hF := hSR.2.2.2.2.2
  have hD := mWs_D (st := st) hSR.1
  obtain ⟨i, len, aux, z⟩ := e0
  cases i
  case iconst n =>
    have hdg := mChkI_len rfl hchk
    unfold mStep at h
    dsimp only at h
    exact lv_iconst hx hb hdg rfl (hK _ _ _ _ _ _ _ h hP hS hl)
  case bipush n =>
    have hdg := mChkI_len rfl hchk
    unfold mStep at h
    dsimp only at h
    exact lv_bipush hx hb hdg rfl (hK _ _ _ _ _ _ _ h hP hS hl)
  case sipush n =>
    have hdg := mChkI_len rfl hchk
    unfold mStep at h
    dsimp only at h
    exact lv_sipush hx hb hdg rfl (hK _ _ _ _ _ _ _ h hP hS hl)
  case lconst n =>
    have hdg := mChkI_len rfl hchk
    unfold mStep at h
    dsimp only at h
    exact lv_lconst hx hb hdg rfl (hK _ _ _ _ _ _ _ h hP hS hl)
  case aconst_null =>
    have hdg := mChkI_len rfl hchk
    unfold mStep at h
    dsimp only at h
    exact lv_null hx hb hdg (hK _ _ _ _ _ _ _ h hP hS hl)
  case ldc idx =>
    have hdg := mChkI_len rfl hchk
    unfold mStep at h
    dsimp only at h
    split at h
    · rename_i w
      have hw : mWd w (.constant own idx (Int32.ofInt z)) = true := hlnk
      exact lv_ldc hx hb hown (hts _ (lw_G_in (mWd_in hw) rfl)) hdg (hK _ _ _ _ _ _ _ h hP hS hl)
    · rename_i i
      have hw : (decide (i < 5) && decide (own = "SpadeRings$Script") && Nat.beq ([122, 128, 130, 132, 134].getD i 0) idx) = true := hlnk
      simp only [Bool.and_eq_true, decide_eq_true_eq] at hw
      obtain ⟨⟨h1, h2⟩, h3⟩ := hw
      have h4 := hSR.2.2.1 i h1
      have h5 : strI.getD i 0 = idx := Nat.eq_of_beq_eq_true h3
      rw [h5] at h4
      subst h2
      have h6 := hK _ _ _ _ _ _ _ h hP hS hl
      rw [List.map_cons, mTr_ref (ne130s h1)] at h6
      exact va_ldcS hx hb hown h4 hdg h6
    · exact h.elim
  case ldc_w idx =>
    have hdg := mChkI_len rfl hchk
    unfold mStep at h
    dsimp only at h
    split at h
    · rename_i w
      have hw : mWd w (.constant own idx (Int32.ofInt z)) = true := hlnk
      exact lv_ldcw hx hb hown (hts _ (lw_G_in (mWd_in hw) rfl)) hdg (hK _ _ _ _ _ _ _ h hP hS hl)
    · exact h.elim
  case ldc2_w idx =>
    have hdg := mChkI_len rfl hchk
    unfold mStep at h
    dsimp only at h
    split at h
    · rename_i w
      have hw : mWd w (.constantLong own idx (Int64.ofInt z)) = true := hlnk
      exact lv_ldc2 hx hb hown (hts _ (lw_G_in (mWd_in hw) rfl)) hdg (hK _ _ _ _ _ _ _ h hP hS hl)
    · exact h.elim
  case iload_n i =>
    have hdg := mChkI_len rfl hchk
    unfold mStep at h
    dsimp only at h
    split at h
    · rename_i x hg
      exact lv_iload_n hx hb hdg rfl (mLo_get hl hg) (hK _ _ _ _ _ _ _ h hP hS hl)
    · exact h.elim
  case iload i =>
    have hdg := mChkI_len rfl hchk
    unfold mStep at h
    dsimp only at h
    split at h
    · rename_i x hg
      exact lv_iload hx hb hdg (mLo_get hl hg) (hK _ _ _ _ _ _ _ h hP hS hl)
    · exact h.elim
  case lload_n i =>
    have hdg := mChkI_len rfl hchk
    unfold mStep at h
    dsimp only at h
    split at h
    · rename_i x hg
      exact lv_lload_n hx hb hdg rfl (mLo_get hl hg) (hK _ _ _ _ _ _ _ h hP hS hl)
    · exact h.elim
  case lload i =>
    have hdg := mChkI_len rfl hchk
    unfold mStep at h
    dsimp only at h
    split at h
    · rename_i x hg
      exact lv_lload hx hb hdg (mLo_get hl hg) (hK _ _ _ _ _ _ _ h hP hS hl)
    · exact h.elim
  case aload_n i =>
    have hdg := mChkI_len rfl hchk
    unfold mStep at h
    dsimp only at h
    split at h
    · rename_i x hg
      replace h := bif_f h
      obtain ⟨h0, h⟩ := h
      have h0 := beq130 h0
      have h1 := mLo_get hl hg
      rw [mTr_ref h0] at h1
      have h2 := hK _ _ _ _ _ _ _ h hP hS hl
      rw [List.map_cons, mTr_ref h0] at h2
      exact lv_aload_n hx hb hdg rfl h1 h2
    · rename_i hg
      exact lv_aload_nN hx hb hdg rfl (mLo_get hl hg) (hK _ _ _ _ _ _ _ h hP hS hl)
    · exact h.elim
  case aload i =>
    have hdg := mChkI_len rfl hchk
    unfold mStep at h
    dsimp only at h
    split at h
    · rename_i x hg
      replace h := bif_f h
      obtain ⟨h0, h⟩ := h
      have h0 := beq130 h0
      have h1 := mLo_get hl hg
      rw [mTr_ref h0] at h1
      have h2 := hK _ _ _ _ _ _ _ h hP hS hl
      rw [List.map_cons, mTr_ref h0] at h2
      exact lv_aload hx hb hdg h1 h2
    · rename_i hg
      exact lv_aloadN hx hb hdg (mLo_get hl hg) (hK _ _ _ _ _ _ _ h hP hS hl)
    · exact h.elim
  case istore_n i =>
    have hdg := mChkI_len rfl hchk
    unfold mStep at h
    dsimp only at h
    split at h
    · rename_i x r
      replace h := bif_t h
      obtain ⟨h0, h⟩ := h
      have h0 := blt_lt h0
      exact lv_istore_n hx hb hdg rfl hl.1 (by rw [← hl.2]; exact h0) rfl (fun ls' hl' => hK _ _ _ _ _ _ _ h hP hS ⟨lv_mono hl' (mPrs_set1 hF h0), by rw [mSet1_len]; exact hl.2⟩)
    · exact h.elim
  case lstore_n i =>
    have hdg := mChkI_len rfl hchk
    unfold mStep at h
    dsimp only at h
    split at h
    · rename_i x r
      replace h := bif_t h
      obtain ⟨h0, h⟩ := h
      have h0 := blt_lt h0
      exact lv_lstore_n hx hb hdg rfl hl.1 (by rw [← hl.2]; exact h0) rfl (fun ls' hl' => hK _ _ _ _ _ _ _ h hP hS ⟨lv_mono hl' (mPrs_set2 hF h0), by rw [mSet2_len]; exact hl.2⟩)
    · exact h.elim
  case astore_n i =>
    have hdg := mChkI_len rfl hchk
    unfold mStep at h
    dsimp only at h
    split at h
    · rename_i x r
      replace h := bif_t h
      obtain ⟨h0, h⟩ := h
      rw [Bool.and_eq_true, Bool.not_eq_true'] at h0
      have h1 := beq130 h0.2
      have h0 := blt_lt h0.1
      have e1 : mTr G (.ref x) = .ref (G.2.1 x) := mTr_ref h1
      rw [List.map_cons, e1]
      exact lv_astore_n hx hb hdg rfl hl.1 (by rw [← hl.2]; exact h0) rfl (fun ls' hl' => hK _ _ _ _ _ _ _ h hP hS ⟨lv_mono hl' (by rw [← e1]; exact mPrs_set1 hF h0), by rw [mSet1_len]; exact hl.2⟩)
    · rename_i r
      replace h := bif_t h
      obtain ⟨h0, h⟩ := h
      have h0 := blt_lt h0
      exact lv_astore_nN hx hb hdg rfl hl.1 (by rw [← hl.2]; exact h0) rfl (fun ls' hl' => hK _ _ _ _ _ _ _ h hP hS ⟨lv_mono hl' (mPrs_set1 hF h0), by rw [mSet1_len]; exact hl.2⟩)
    · exact h.elim
  case istore i =>
    have hdg := mChkI_len rfl hchk
    unfold mStep at h
    dsimp only at h
    split at h
    · rename_i x r
      replace h := bif_t h
      obtain ⟨h0, h⟩ := h
      have h0 := blt_lt h0
      exact lv_istore hx hb hdg hl.1 (by rw [← hl.2]; exact h0) rfl (fun ls' hl' => hK _ _ _ _ _ _ _ h hP hS ⟨lv_mono hl' (mPrs_set1 hF h0), by rw [mSet1_len]; exact hl.2⟩)
    · exact h.elim
  case lstore i =>
    have hdg := mChkI_len rfl hchk
    unfold mStep at h
    dsimp only at h
    split at h
    · rename_i x r
      replace h := bif_t h
      obtain ⟨h0, h⟩ := h
      have h0 := blt_lt h0
      exact lv_lstore hx hb hdg hl.1 (by rw [← hl.2]; exact h0) rfl (fun ls' hl' => hK _ _ _ _ _ _ _ h hP hS ⟨lv_mono hl' (mPrs_set2 hF h0), by rw [mSet2_len]; exact hl.2⟩)
    · exact h.elim
  case astore i =>
    have hdg := mChkI_len rfl hchk
    unfold mStep at h
    dsimp only at h
    split at h
    · rename_i x r
      replace h := bif_t h
      obtain ⟨h0, h⟩ := h
      rw [Bool.and_eq_true, Bool.not_eq_true'] at h0
      have h1 := beq130 h0.2
      have h0 := blt_lt h0.1
      have e1 : mTr G (.ref x) = .ref (G.2.1 x) := mTr_ref h1
      rw [List.map_cons, e1]
      exact lv_astore hx hb hdg hl.1 (by rw [← hl.2]; exact h0) rfl (fun ls' hl' => hK _ _ _ _ _ _ _ h hP hS ⟨lv_mono hl' (by rw [← e1]; exact mPrs_set1 hF h0), by rw [mSet1_len]; exact hl.2⟩)
    · rename_i r
      replace h := bif_t h
      obtain ⟨h0, h⟩ := h
      have h0 := blt_lt h0
      exact lv_astoreN hx hb hdg hl.1 (by rw [← hl.2]; exact h0) rfl (fun ls' hl' => hK _ _ _ _ _ _ _ h hP hS ⟨lv_mono hl' (mPrs_set1 hF h0), by rw [mSet1_len]; exact hl.2⟩)
    · exact h.elim
  case iinc i n =>
    have hdg := mChkI_len rfl hchk
    unfold mStep at h
    dsimp only at h
    split at h
    · rename_i x hg
      replace h := bif_t h
      obtain ⟨h0, h⟩ := h
      have h0 := blt_lt h0
      have hm : (i, Value.int x) ∈ mPrs G 0 ls := (mPrs_mem ls 0 _).mpr ⟨i, .int x, mGet_some hg, by rw [Nat.zero_add]; rfl⟩
      obtain ⟨k, hk⟩ := List.getElem?_of_mem hm
      exact lv_iinc hx hb hdg hl.1 hk rfl (by rw [← hl.2]; exact h0) rfl (fun ls' hl' => hK _ _ _ _ _ _ _ h hP hS ⟨lv_mono hl' (mPrs_set1 (v := .int (x + Int32.ofInt n)) hF h0), by rw [mSet1_len]; exact hl.2⟩)
    · exact h.elim
  case iadd =>
    have hdg := mChkI_len rfl hchk
    unfold mStep at h
    dsimp only at h
    split at h
    · exact lv_iadd hx hb hdg (hK _ _ _ _ _ _ _ h hP hS hl)
    · exact h.elim
  case isub =>
    have hdg := mChkI_len rfl hchk
    unfold mStep at h
    dsimp only at h
    split at h
    · exact lv_isub hx hb hdg (hK _ _ _ _ _ _ _ h hP hS hl)
    · exact h.elim
  case imul =>
    have hdg := mChkI_len rfl hchk
    unfold mStep at h
    dsimp only at h
    split at h
    · exact lv_imul hx hb hdg (hK _ _ _ _ _ _ _ h hP hS hl)
    · exact h.elim
  case iand =>
    have hdg := mChkI_len rfl hchk
    unfold mStep at h
    dsimp only at h
    split at h
    · exact lv_iand hx hb hdg (hK _ _ _ _ _ _ _ h hP hS hl)
    · exact h.elim
  case ior =>
    have hdg := mChkI_len rfl hchk
    unfold mStep at h
    dsimp only at h
    split at h
    · exact lv_ior hx hb hdg (hK _ _ _ _ _ _ _ h hP hS hl)
    · exact h.elim
  case ixor =>
    have hdg := mChkI_len rfl hchk
    unfold mStep at h
    dsimp only at h
    split at h
    · exact lv_ixor hx hb hdg (hK _ _ _ _ _ _ _ h hP hS hl)
    · exact h.elim
  case ishl =>
    have hdg := mChkI_len rfl hchk
    unfold mStep at h
    dsimp only at h
    split at h
    · exact lv_ishl hx hb hdg (hK _ _ _ _ _ _ _ h hP hS hl)
    · exact h.elim
  case ishr =>
    have hdg := mChkI_len rfl hchk
    unfold mStep at h
    dsimp only at h
    split at h
    · exact lv_ishr hx hb hdg (hK _ _ _ _ _ _ _ h hP hS hl)
    · exact h.elim
  case ladd =>
    have hdg := mChkI_len rfl hchk
    unfold mStep at h
    dsimp only at h
    split at h
    · exact lv_ladd hx hb hdg (hK _ _ _ _ _ _ _ h hP hS hl)
    · exact h.elim
  case lsub =>
    have hdg := mChkI_len rfl hchk
    unfold mStep at h
    dsimp only at h
    split at h
    · exact lv_lsub hx hb hdg (hK _ _ _ _ _ _ _ h hP hS hl)
    · exact h.elim
  case land =>
    have hdg := mChkI_len rfl hchk
    unfold mStep at h
    dsimp only at h
    split at h
    · exact lv_land hx hb hdg (hK _ _ _ _ _ _ _ h hP hS hl)
    · exact h.elim
  case lor =>
    have hdg := mChkI_len rfl hchk
    unfold mStep at h
    dsimp only at h
    split at h
    · exact lv_lor hx hb hdg (hK _ _ _ _ _ _ _ h hP hS hl)
    · exact h.elim
  case idiv =>
    have hdg := mChkI_len rfl hchk
    unfold mStep at h
    dsimp only at h
    split at h
    · exact lv_idiv hx hb hdg h.1 (hK _ _ _ _ _ _ _ h.2 hP hS hl)
    · exact h.elim
  case irem =>
    have hdg := mChkI_len rfl hchk
    unfold mStep at h
    dsimp only at h
    split at h
    · exact lv_irem hx hb hdg h.1 (hK _ _ _ _ _ _ _ h.2 hP hS hl)
    · exact h.elim
  case ineg =>
    have hdg := mChkI_len rfl hchk
    unfold mStep at h
    dsimp only at h
    split at h
    · exact lv_ineg hx hb hdg (hK _ _ _ _ _ _ _ h hP hS hl)
    · exact h.elim
  case iushr =>
    have hdg := mChkI_len rfl hchk
    unfold mStep at h
    dsimp only at h
    split at h
    · exact lv_iushr hx hb hdg rfl (hK _ _ _ _ _ _ _ h hP hS hl)
    · exact h.elim
  case lshl =>
    have hdg := mChkI_len rfl hchk
    unfold mStep at h
    dsimp only at h
    split at h
    · exact lv_lshl hx hb hdg rfl (hK _ _ _ _ _ _ _ h hP hS hl)
    · exact h.elim
  case lshr =>
    have hdg := mChkI_len rfl hchk
    unfold mStep at h
    dsimp only at h
    split at h
    · exact lv_lshr hx hb hdg rfl (hK _ _ _ _ _ _ _ h hP hS hl)
    · exact h.elim
  case lushr =>
    have hdg := mChkI_len rfl hchk
    unfold mStep at h
    dsimp only at h
    split at h
    · exact lv_lushr hx hb hdg rfl (hK _ _ _ _ _ _ _ h hP hS hl)
    · exact h.elim
  case i2l =>
    have hdg := mChkI_len rfl hchk
    unfold mStep at h
    dsimp only at h
    split at h
    · exact lv_i2l hx hb hdg rfl (hK _ _ _ _ _ _ _ h hP hS hl)
    · exact h.elim
  case l2i =>
    have hdg := mChkI_len rfl hchk
    unfold mStep at h
    dsimp only at h
    split at h
    · exact lv_l2i hx hb hdg rfl (hK _ _ _ _ _ _ _ h hP hS hl)
    · exact h.elim
  case i2b =>
    have hdg := mChkI_len rfl hchk
    unfold mStep at h
    dsimp only at h
    split at h
    · exact lv_i2b hx hb hdg rfl (hK _ _ _ _ _ _ _ h hP hS hl)
    · exact h.elim
  case i2c =>
    have hdg := mChkI_len rfl hchk
    unfold mStep at h
    dsimp only at h
    split at h
    · exact lv_i2c hx hb hdg rfl (hK _ _ _ _ _ _ _ h hP hS hl)
    · exact h.elim
  case lcmp =>
    have hdg := mChkI_len rfl hchk
    unfold mStep at h
    dsimp only at h
    split at h
    · exact W.lcmp hx hb hdg (hK _ _ _ _ _ _ _ h hP hS hl)
    · exact h.elim
  case dup =>
    have hdg := mChkI_len rfl hchk
    unfold mStep at h
    dsimp only at h
    split at h
    · replace h := bif_t h
      obtain ⟨h0, h⟩ := h
      have h0 := Nat.eq_of_beq_eq_true h0
      exact lv_dup hx hb hdg (by rw [mTr_cat hF]; exact h0) (hK _ _ _ _ _ _ _ h hP hS hl)
    · exact h.elim
  case pop =>
    have hdg := mChkI_len rfl hchk
    unfold mStep at h
    dsimp only at h
    split at h
    · replace h := bif_t h
      obtain ⟨h0, h⟩ := h
      have h0 := Nat.eq_of_beq_eq_true h0
      exact lv_pop hx hb hdg (by rw [mTr_cat hF]; exact h0) (hK _ _ _ _ _ _ _ h hP hS hl)
    · exact h.elim
  case dup2 =>
    have hdg := mChkI_len rfl hchk
    unfold mStep at h
    dsimp only at h
    split at h
    · replace h := bif_t h
      obtain ⟨h0, h⟩ := h
      rw [Bool.and_eq_true] at h0
      have h1 := Nat.eq_of_beq_eq_true h0.1
      have h2 := Nat.eq_of_beq_eq_true h0.2
      exact lv_dup2_11 hx hb hdg (by rw [mTr_cat hF]; exact h1) (by rw [mTr_cat hF]; exact h2) (hK _ _ _ _ _ _ _ h hP hS hl)
    · exact h.elim
  case goto off =>
    have hdg := mChkI_len rfl hchk
    have hj := mChkI_jmp hchk
    unfold mStep at h
    dsimp only at h hj
    split at h
    · exact lv_goto hx hb hdg (mJmp_eq hj) (hK _ _ _ _ _ _ _ h hP hS hl)
    · exact h.elim
  case ifCond cnd off =>
    have hdg := mChkI_len rfl hchk
    have hj := mChkI_jmp hchk
    unfold mStep at h
    dsimp only at h hj
    split at h
    · obtain ⟨h2, h3⟩ := h
      cases cnd
      · exact lv_if_eq hx hb hdg (mJmp_eq hj) (fun hc => hK _ _ _ _ _ _ _ (h2 hc) hP hS hl) (fun hc => hK _ _ _ _ _ _ _ (h3 hc) hP hS hl)
      · exact lv_if_ne hx hb hdg (mJmp_eq hj) (fun hc => hK _ _ _ _ _ _ _ (h2 hc) hP hS hl) (fun hc => hK _ _ _ _ _ _ _ (h3 (not_not_intro hc)) hP hS hl)
      · exact lv_if_lt hx hb hdg (mJmp_eq hj) (fun hc => hK _ _ _ _ _ _ _ (h2 hc) hP hS hl) (fun hc => hK _ _ _ _ _ _ _ (h3 hc) hP hS hl)
      · exact lv_if_ge hx hb hdg (mJmp_eq hj) (fun hc => hK _ _ _ _ _ _ _ (h2 hc) hP hS hl) (fun hc => hK _ _ _ _ _ _ _ (h3 hc) hP hS hl)
      · exact lv_if_gt hx hb hdg (mJmp_eq hj) (fun hc => hK _ _ _ _ _ _ _ (h2 hc) hP hS hl) (fun hc => hK _ _ _ _ _ _ _ (h3 hc) hP hS hl)
      · exact lv_if_le hx hb hdg (mJmp_eq hj) (fun hc => hK _ _ _ _ _ _ _ (h2 hc) hP hS hl) (fun hc => hK _ _ _ _ _ _ _ (h3 hc) hP hS hl)
    · exact h.elim
  case if_icmp cnd off =>
    have hdg := mChkI_len rfl hchk
    have hj := mChkI_jmp hchk
    unfold mStep at h
    dsimp only at h hj
    split at h
    · obtain ⟨h2, h3⟩ := h
      cases cnd
      · exact lv_icmp_eq hx hb hdg (mJmp_eq hj) (fun hc => hK _ _ _ _ _ _ _ (h2 hc) hP hS hl) (fun hc => hK _ _ _ _ _ _ _ (h3 hc) hP hS hl)
      · exact lv_icmp_ne hx hb hdg (mJmp_eq hj) (fun hc => hK _ _ _ _ _ _ _ (h2 hc) hP hS hl) (fun hc => hK _ _ _ _ _ _ _ (h3 (not_not_intro hc)) hP hS hl)
      · exact lv_icmp_lt hx hb hdg (mJmp_eq hj) (fun hc => hK _ _ _ _ _ _ _ (h2 hc) hP hS hl) (fun hc => hK _ _ _ _ _ _ _ (h3 hc) hP hS hl)
      · exact lv_icmp_ge hx hb hdg (mJmp_eq hj) (fun hc => hK _ _ _ _ _ _ _ (h2 hc) hP hS hl) (fun hc => hK _ _ _ _ _ _ _ (h3 hc) hP hS hl)
      · exact lv_icmp_gt hx hb hdg (mJmp_eq hj) (fun hc => hK _ _ _ _ _ _ _ (h2 hc) hP hS hl) (fun hc => hK _ _ _ _ _ _ _ (h3 hc) hP hS hl)
      · exact lv_icmp_le hx hb hdg (mJmp_eq hj) (fun hc => hK _ _ _ _ _ _ _ (h2 hc) hP hS hl) (fun hc => hK _ _ _ _ _ _ _ (h3 hc) hP hS hl)
    · exact h.elim
  case ifnull off =>
    have hdg := mChkI_len rfl hchk
    have hj := mChkI_jmp hchk
    unfold mStep at h
    dsimp only at h hj
    split at h
    · rename_i q r
      replace h := bif_f h
      obtain ⟨h0, h⟩ := h
      rw [List.map_cons, mTr_ref (beq130 h0)]
      exact lv_ifnull hx hb hdg (hK _ _ _ _ _ _ _ h hP hS hl)
    · exact lv_ifnullN hx hb hdg (mJmp_eq hj) (hK _ _ _ _ _ _ _ h hP hS hl)
    · exact h.elim
  case ifnonnull off =>
    have hdg := mChkI_len rfl hchk
    have hj := mChkI_jmp hchk
    unfold mStep at h
    dsimp only at h hj
    split at h
    · rename_i q r
      replace h := bif_f h
      obtain ⟨h0, h⟩ := h
      rw [List.map_cons, mTr_ref (beq130 h0)]
      exact lv_ifnonnull hx hb hdg (mJmp_eq hj) (hK _ _ _ _ _ _ _ h hP hS hl)
    · exact lv_ifnonnullN hx hb hdg (hK _ _ _ _ _ _ _ h hP hS hl)
    · exact h.elim
  case tableswitch d lo hi offs =>
    unfold mStep at h
    dsimp only at h
    have hdg := mChkI_dec hchk
    split at h
    · rename_i x r
      split at h
      · rename_i hc
        exact lv_tableOut hx hb hdg hc (mTgt_eq h.1) (hK _ _ _ _ _ _ _ h.2 hP hS hl)
      · rename_i hc
        split at h
        · rename_i off ho
          exact lv_tableIn hx hb hdg (fun q => hc (Or.inl q)) (fun q => hc (Or.inr q)) ho (mTgt_eq h.1) (hK _ _ _ _ _ _ _ h.2 hP hS hl)
        · exact h.elim
    · exact h.elim
  case lookupswitch d ps =>
    unfold mStep at h
    dsimp only at h
    have hdg := mChkI_dec hchk
    split at h
    · exact lv_lookup hx hb hdg h.1 rfl (mTgt_eq h.2.1) (hK _ _ _ _ _ _ _ h.2.2 hP hS hl)
    · exact h.elim
  case getfield idx =>
    have hdg := mChkI_len rfl hchk
    unfold mStep at h
    dsimp only at h
    split at h
    · rename_i pl r ci k t
      obtain ⟨g1, g2⟩ := chk_get hlnk
      split at h
      · rename_i cls fs hlay
        replace h := bif_t h
        obtain ⟨h0, h⟩ := h
        obtain rfl := Nat.eq_of_beq_eq_true h0
        split at h
        · rename_i f hf
          obtain ⟨hp, q, hq, hlen, -⟩ := lay_obj hlay
          have h50 : cls ≠ 50 := by intro e; subst e; cases hq
          obtain ⟨q', hq', hk, hlink⟩ := g2 h50
          cases hq.symm.trans hq'
          rw [List.map_cons, mTr_ref (by omega)]
          exact va_get (D := G.1) (ci := cls) (C := q.1) (T := q.2.1) (N := q.2.2) hx hb hts (u_ws_G hq) hown hKK hP pl (by rw [mWs_get hp, mCell_4 hlay]) hq k hk (hts _ hlink) (fun _ h => h) (fld_at hf) hdg (hK _ _ _ _ _ _ _ h hP hS hl)
        · exact h.elim
      · rename_i i fs hlay
        obtain ⟨rfl, h⟩ := h
        have hlink := g1 rfl
        obtain ⟨h3, h4⟩ := lay_5 hlay
        have hst := hSR.2.1.1 i h3
        rw [List.map_cons, mTr_ref (by omega), h4]
        split at h
        · exact vk_getf hx hb hst.2.1 hS hown (hts _ hlink) (fun _ h => h) hdg (hK _ _ _ _ _ _ _ h hP hS hl)
        · have h6 := hK _ _ _ _ _ _ _ h hP hS hl
          rw [List.map_cons, mTr_ref (by omega)] at h6
          exact vk_getf hx hb hst.2.2.1 hS hown (hts _ hlink) (fun _ h => h) hdg h6
        · exact h.elim
      · exact h.elim
    · exact h.elim
  case putfield idx =>
    have hdg := mChkI_len rfl hchk
    unfold mStep at h
    dsimp only at h
    split at h
    · rename_i v pl r ci k t
      split at h
      · rename_i cls fs hlay
        replace h := bif_t h
        obtain ⟨h0, h⟩ := h
        obtain rfl := Nat.eq_of_beq_eq_true h0
        have hp : pl < 86 := (lay_obj hlay).1
        rw [List.map_cons, List.map_cons, mTr_ref (ne130 hp)]
        split at h
        · rename_i fv x hf
          refine mPut F hlnk hdg (st := st) (st' := (mU st.1 pl k x, st.2)) (ty := .int) (v := .int x) hlay hf (fun q _ hk => ?_) rfl rfl ?_ (fun j f hj => ?_) (fun q hq => mCell_congr (mU_ne hq) rfl) hP hS (fun H1 locs1 hP1 hS1 => hK _ _ _ _ _ _ _ h hP1 hS1 hl)
          · have hk1 : (decide ((q.2.1 k).2.2.1 = "I") && !(q.2.1 k).2.2.2) = true := hk
            simp only [Bool.and_eq_true, decide_eq_true_eq, Bool.not_eq_true'] at hk1
            exact ⟨hk1.2, by rw [hk1.1]; decide +kernel⟩
          · show mTr G (.int (mU st.1 pl k x pl k)) = _
            rw [mU_eq]
            show Value.int (upd (st.1 pl) k x k) = _
            rw [pk_us]
          · unfold mFld
            simp only [mU_eq, upd, if_neg hj]
        · rename_i fv x hf
          obtain ⟨hx01, h⟩ := h
          refine mPut F hlnk hdg (st := st) (st' := (mU st.1 pl k x, st.2)) (ty := .boolean) (v := .int x) hlay hf (fun q _ hk => ?_) (by rcases hx01 with rfl | rfl <;> rfl) (by rcases hx01 with rfl | rfl <;> rfl) ?_ (fun j f hj => ?_) (fun q hq => mCell_congr (mU_ne hq) rfl) hP hS (fun H1 locs1 hP1 hS1 => hK _ _ _ _ _ _ _ h hP1 hS1 hl)
          · have hk1 : (decide ((q.2.1 k).2.2.1 = "Z") && !(q.2.1 k).2.2.2) = true := hk
            simp only [Bool.and_eq_true, decide_eq_true_eq, Bool.not_eq_true'] at hk1
            exact ⟨hk1.2, by rw [hk1.1]; decide +kernel⟩
          · show mTr G (.int (mU st.1 pl k x pl k)) = _
            rw [mU_eq]
            show Value.int (upd (st.1 pl) k x k) = _
            rw [pk_us]
          · unfold mFld
            simp only [mU_eq, upd, if_neg hj]
        · rename_i fv x hf
          refine mPut F hlnk hdg (st := st) (st' := (st.1, mUL st.2 pl k x)) (ty := .long) (v := .long x) hlay hf (fun q _ hk => ?_) rfl rfl ?_ (fun j f hj => ?_) (fun q hq => mCell_congr rfl (mUL_ne hq)) hP hS (fun H1 locs1 hP1 hS1 => hK _ _ _ _ _ _ _ h hP1 hS1 hl)
          · have hk1 : (decide ((q.2.1 k).2.2.1 = "J") && !(q.2.1 k).2.2.2) = true := hk
            simp only [Bool.and_eq_true, decide_eq_true_eq, Bool.not_eq_true'] at hk1
            exact ⟨hk1.2, by rw [hk1.1]; decide +kernel⟩
          · show mTr G (.long (mUL st.2 pl k x pl k)) = _
            rw [mUL_eq]
            show Value.long (vp_updL (st.2 pl) k x k) = _
            rw [pk_uLs]
          · unfold mFld
            simp only [mUL_eq, vp_updL, if_neg hj]
        · rename_i fv x hf
          replace h := bif_t h
          obtain ⟨hx86, h⟩ := h
          have hx86 := blt_lt hx86
          rw [mTr_ref (ne130 hx86)]
          refine mPut F hlnk hdg (st := st) (st' := (mU st.1 pl k (nI x), st.2)) (ty := .object "SpadeRings$Gang") (v := .ref (G.2.1 x)) hlay hf (fun q _ hk => ?_) rfl rfl ?_ (fun j f hj => ?_) (fun q hq => mCell_congr (mU_ne hq) rfl) hP hS (fun H1 locs1 hP1 hS1 => hK _ _ _ _ _ _ _ h hP1 hS1 hl)
          · have hk1 : (decide ((q.2.1 k).2.2.1 = "LSpadeRings$Gang;") && !(q.2.1 k).2.2.2) = true := hk
            simp only [Bool.and_eq_true, decide_eq_true_eq, Bool.not_eq_true'] at hk1
            exact ⟨hk1.2, by rw [hk1.1]; decide +kernel⟩
          · show mTr G (.ref (mU st.1 pl k (nI x) pl k).toNatClampNeg) = _
            rw [mU_eq, pk_us, nI_clamp (Nat.lt_trans hx86 (by decide)), mTr_ref (ne130 hx86)]
          · unfold mFld
            simp only [mU_eq, upd, if_neg hj]
        · exact h.elim
      · exact h.elim
    · exact h.elim
  case getstatic idx =>
    have hdg := mChkI_len rfl hchk
    unfold mStep at h
    dsimp only at h
    split at h
    · rename_i t
      match t, hlnk with
      | [w], hlnk =>
        have hw : mWd w (.fieldLink own idx "java/lang/String" "COMPACT_STRINGS" "Z") = true := hlnk
        exact va_gets hx hb hSR.2.2.2.1 hS hown (hts _ (lw_G_in (mWd_in hw) rfl)) (fun _ h => h) hdg (hK _ _ _ _ _ _ _ h hP hS hl)
      | [], hlnk => exact absurd hlnk (by simp [mChkL])
      | _ :: _ :: _, hlnk => exact absurd hlnk (by simp [mChkL])
    · rename_i t
      match t, hlnk with
      | [w], hlnk =>
        have hw : mWd w (.fieldLink own idx "jdk/internal/util/Preconditions" "SIOOBE_FORMATTER" "Ljava/util/function/BiFunction;") = true := hlnk
        exact va_gets hx hb hSR.2.2.2.2.1 hS hown (hts _ (lw_G_in (mWd_in hw) rfl)) (fun _ h => h) hdg (hK _ _ _ _ _ _ _ h hP hS hl)
      | [], hlnk => exact absurd hlnk (by simp [mChkL])
      | _ :: _ :: _, hlnk => exact absurd hlnk (by simp [mChkL])
    · exact h.elim
  case iaload =>
    have hdg := mChkI_len rfl hchk
    unfold mStep at h
    dsimp only at h
    split at h
    · rename_i i a r
      split at h
      · rename_i n fs hlay
        have hp : a < 86 := lay_lt (by rw [hlay]; simp)
        rw [List.map_cons, List.map_cons, mTr_ref (ne130 hp)]
        exact va_iald hx hb hKK hP a 0 (by rw [mWs_get hp, mCell_0 hlay]) rfl h.1 hdg (hK _ _ _ _ _ _ _ h.2 hP hS hl)
      · rename_i n fs hlay
        obtain rfl := lay_7 hlay
        rw [List.map_cons, List.map_cons, mTr_ref (show 120 ≠ 130 by decide)]
        rcases hX with hX | ⟨hX1, hX2, hX3⟩
        · have h1 := h.1
          rw [hX] at h1
          exact absurd (Or.inr (Nat.zero_le _)) h1
        · exact va_sld hx hb hX1 hX2 hX3 hS h.1 hdg (hK _ _ _ _ _ _ _ h.2 hP hS hl)
      · exact h.elim
    · exact h.elim
  case baload =>
    have hdg := mChkI_len rfl hchk
    unfold mStep at h
    dsimp only at h
    split at h
    · rename_i i a r
      split at h
      · rename_i n fs hlay
        have hp : a < 86 := lay_lt (by rw [hlay]; simp)
        rw [List.map_cons, List.map_cons, mTr_ref (ne130 hp)]
        exact va_bald hx hb hKK hP a 1 (by rw [mWs_get hp, mCell_1 hlay]) rfl h.1 hdg (hK _ _ _ _ _ _ _ h.2 hP hS hl)
      · rename_i n fs hlay
        have hp : a < 86 := lay_lt (by rw [hlay]; simp)
        rw [List.map_cons, List.map_cons, mTr_ref (ne130 hp)]
        exact va_zald hx hb hKK hP a 2 (by rw [mWs_get hp, mCell_2 hlay]) rfl h.1 hdg (hK _ _ _ _ _ _ _ h.2 hP hS hl)
      · rename_i j fs hlay
        obtain ⟨h3, h4⟩ := lay_6 hlay
        rw [List.map_cons, List.map_cons, h4, mTr_ref (ne130b h3)]
        exact va_tb hx hb (hSR.2.1.1 j h3).2.2.2 hS h.1 rfl hdg (hK _ _ _ _ _ _ _ h.2 hP hS hl)
      · exact h.elim
    · exact h.elim
  case aaload =>
    have hdg := mChkI_len rfl hchk
    unfold mStep at h
    dsimp only at h
    split at h
    · rename_i i a r
      split at h
      · rename_i n fs hlay
        obtain ⟨h1, h⟩ := h
        split at h
        · rename_i f hf
          have hp : a < 86 := lay_lt (by rw [hlay]; simp)
          rw [List.map_cons, List.map_cons, mTr_ref (ne130 hp)]
          have hf2 : f.2 ≠ 130 := by
            have h0 : ∀ q, q < 86 → ∀ f ∈ (lay q).2.2, f.2 < 86 := by decide +kernel
            have h9 := h0 a hp f (by rw [hlay]; exact List.mem_of_getElem? hf)
            omega
          have h6 := hK _ _ _ _ _ _ _ h hP hS hl
          rw [List.map_cons, mTr_ref hf2] at h6
          refine va_aldq hx hb hKK hP a 3 (by rw [mWs_get hp, mCell_3 hlay]) rfl h1 hdg ?_
          simp only [hf, Option.map_some]
          exact h6
        · exact h.elim
      · exact h.elim
    · exact h.elim
  case iastore =>
    have hdg := mChkI_len rfl hchk
    unfold mStep at h
    dsimp only at h
    split at h
    · rename_i x i a r
      split at h
      · rename_i n fs hlay
        have hp : a < 86 := lay_lt (by rw [hlay]; simp)
        rw [List.map_cons, List.map_cons, List.map_cons, mTr_ref (ne130 hp)]
        have hset := mWs_set (G := G) (st := st) (st' := (mU st.1 a i.toNatClampNeg x, st.2)) hp (mCell_0 hlay) (fun q hq => mCell_congr (mU_ne hq) rfl)
        simp only [mU_eq] at hset
        refine va_iast hx hb hKK hP hD hS a 0 (by rw [mWs_get hp, mCell_0 hlay]) rfl h.1 hdg (fun H1 locs1 h1 _ h3 => ?_)
        rw [hset] at h1
        exact hK _ _ _ _ _ _ _ h.2 h1 h3 hl
      · exact h.elim
    · exact h.elim
  case bastore =>
    have hdg := mChkI_len rfl hchk
    unfold mStep at h
    dsimp only at h
    split at h
    · rename_i x i a r
      split at h
      · rename_i n fs hlay
        have hp : a < 86 := lay_lt (by rw [hlay]; simp)
        rw [List.map_cons, List.map_cons, List.map_cons, mTr_ref (ne130 hp)]
        have hset := mWs_set (G := G) (st := st) (st' := (mU st.1 a i.toNatClampNeg (vp_nar .byte x), st.2)) hp (mCell_1 hlay) (fun q hq => mCell_congr (mU_ne hq) rfl)
        simp only [mU_eq] at hset
        refine va_bast hx hb hKK hP hD hS a 1 (by rw [mWs_get hp, mCell_1 hlay]) rfl h.1 hdg (fun H1 locs1 h1 _ h3 => ?_)
        rw [hset] at h1
        exact hK _ _ _ _ _ _ _ h.2 h1 h3 hl
      · rename_i n fs hlay
        have hp : a < 86 := lay_lt (by rw [hlay]; simp)
        rw [List.map_cons, List.map_cons, List.map_cons, mTr_ref (ne130 hp)]
        have hset := mWs_set (G := G) (st := st) (st' := (mU st.1 a i.toNatClampNeg (vp_nar .boolean x), st.2)) hp (mCell_2 hlay) (fun q hq => mCell_congr (mU_ne hq) rfl)
        simp only [mU_eq] at hset
        refine va_zast hx hb hKK hP hD hS a 2 (by rw [mWs_get hp, mCell_2 hlay]) rfl h.1 hdg (fun H1 locs1 h1 _ h3 => ?_)
        rw [hset] at h1
        exact hK _ _ _ _ _ _ _ h.2 h1 h3 hl
      · exact h.elim
    · exact h.elim
  case arraylength =>
    have hdg := mChkI_len rfl hchk
    unfold mStep at h
    dsimp only at h
    split at h
    · rename_i a r
      split at h
      · rename_i n fs hlay
        have hp : a < 86 := lay_lt (by rw [hlay]; simp)
        rw [List.map_cons, mTr_ref (ne130 hp)]
        exact va_alen (x := (n, .inl (st.1 a))) hx hb hKK hP a 0 (by rw [mWs_get hp, mCell_0 hlay]) rfl rfl hdg (hK _ _ _ _ _ _ _ h hP hS hl)
      · rename_i n fs hlay
        have hp : a < 86 := lay_lt (by rw [hlay]; simp)
        rw [List.map_cons, mTr_ref (ne130 hp)]
        exact va_alen (x := (n, .inl (st.1 a))) hx hb hKK hP a 1 (by rw [mWs_get hp, mCell_1 hlay]) rfl rfl hdg (hK _ _ _ _ _ _ _ h hP hS hl)
      · rename_i n fs hlay
        have hp : a < 86 := lay_lt (by rw [hlay]; simp)
        rw [List.map_cons, mTr_ref (ne130 hp)]
        exact va_alen (x := (n, .inl (st.1 a))) hx hb hKK hP a 2 (by rw [mWs_get hp, mCell_2 hlay]) rfl rfl hdg (hK _ _ _ _ _ _ _ h hP hS hl)
      · rename_i n fs hlay
        have hp : a < 86 := lay_lt (by rw [hlay]; simp)
        rw [List.map_cons, mTr_ref (ne130 hp)]
        exact va_alen (x := (n, .inr (.inr (.inr (.inr (fun j => (fs[j]?).map (fun f => G.2.1 f.2))))))) hx hb hKK hP a 3 (by rw [mWs_get hp, mCell_3 hlay]) rfl rfl hdg (hK _ _ _ _ _ _ _ h hP hS hl)
      · rename_i j fs hlay
        obtain ⟨h3, h4⟩ := lay_6 hlay
        rw [List.map_cons, h4, mTr_ref (ne130b h3)]
        exact va_tlen hx hb (hSR.2.1.1 j h3).2.2.2 hS rfl hdg (hK _ _ _ _ _ _ _ h hP hS hl)
      · rename_i n fs hlay
        obtain rfl := lay_7 hlay
        rw [List.map_cons, mTr_ref (show 120 ≠ 130 by decide)]
        rcases hX with hX | ⟨hX1, hX2, hX3⟩
        · exact absurd h.1 (by omega)
        · exact va_slen hx hb hX1 hX2 hX3 hS hdg (hK _ _ _ _ _ _ _ h.2 hP hS hl)
      · exact h.elim
    · exact h.elim
  case invokestatic idx =>
    have hdg := mChkI_len rfl hchk
    unfold mStep at h
    dsimp only at h
    split at h
    · rename_i z0 n t
      obtain ⟨h1, h2, v, st1, h3, h4⟩ := h
      exact mS_callS F hC hR hcs hlnk hl.1.1 hdg h1 h2 h3 hP hS (fun H1 locs1 hP1 hS1 => hK _ _ _ _ _ _ _ h4 hP1 hS1 hl)
    · exact h.elim
  case invokevirtual idx =>
    have hdg := mChkI_len rfl hchk
    unfold mStep at h
    dsimp only at h
    split at h
    · rename_i z0 n ci t
      obtain ⟨h1, h2, h3, v, st1, h4, h5⟩ := h
      exact mS_callV F hC hR hcs hlnk hl.1.1 hdg h1 h2 h3 h4 hP hS (fun H1 locs1 hP1 hS1 => hK _ _ _ _ _ _ _ h5 hP1 hS1 hl)
    · exact h.elim
  case ireturn =>
    have hdg := mChkI_len rfl hchk
    unfold mStep at h
    dsimp only at h
    split at h
    · exact hret _ _ _ _ _ _ h.2 h.1 hP hS hdg
    · exact h.elim
  case lreturn =>
    have hdg := mChkI_len rfl hchk
    unfold mStep at h
    dsimp only at h
    split at h
    · exact hret _ _ _ _ _ _ h.2 h.1 hP hS hdg
    · exact h.elim
  case areturn =>
    have hdg := mChkI_len rfl hchk
    unfold mStep at h
    dsimp only at h
    split at h
    · exact hret _ _ _ _ _ _ h.2 h.1 hP hS hdg
    · exact hret _ _ _ _ _ _ h.2 h.1 hP hS hdg
    · exact h.elim
  case return_ =>
    have hdg := mChkI_len rfl hchk
    unfold mStep at h
    dsimp only at h
    split at h
    · exact hret _ _ _ _ _ _ h.2 h.1 hP hS hdg
    · exact h.elim
  all_goals exact h.elim
end MROW
end
section
/-! FROM THE SMALL MACHINE TO THE LARGE ONE, 5: runs, methods -/
section MMET
variable {p : Program} {l : Launch} {e : Env} {R : Room} {s : State} {m : MethodId} {args : Array Value} {below : List Frame} {meth : Method} {c : Code} {cells slots : Nat} {Qw : State → Prop}
variable {G : mG} {cc : ByteArray} {own : String} {nL : Nat} {S : Nat × (Nat → Int32)}
theorem mOk_sound {C : Nat → List Value → mSt → Option Value → mSt → Prop} {d : Nat} (F : mFix p s m args c cc nL own G S) (hC : mCs l G d C) (hR : d + 1 ≤ R.frames ∧ 59 + 64 * d ≤ R.locals) (hcs : cells ≤ R.cells ∧ slots ≤ R.slots)
    {rt : Option FieldType} {Q : Option Value → mSt → Prop} (hret : mRg p l e R s m args below meth c cells slots Qw G cc rt Q) {P : List (Nat × mE)} (hchk : mChk mT own cc P = true) :
    ∀ n, mKg p l e R s m args below meth c cells slots Qw G nL (mOk C S (mAtL P) rt Q n) := by
  intro n
  induction n with
  | zero => intro pc ls sk st H locs lsA h; exact h.elim
  | succ n ih =>
    intro pc ls sk st H locs lsA h hP hS hl
    have h' : match mAtL P pc with | none => False | some e => mStep C S rt Q (mOk C S (mAtL P) rt Q n) e pc ls sk st := h
    cases hp : mAtL P pc with
    | none => rw [hp] at h'; exact h'.elim
    | some e0 =>
      rw [hp] at h'
      have hin := List.all_eq_true.mp hchk _ (mAtL_mem hp)
      rw [Bool.and_eq_true] at hin
      exact mStep_sound F hC hR hcs hret ih hin.1 hin.2 h' hP hS hl
end MMET
/-- Met.ofW for methods of classes of which some methods are run by entries of the machine -/
theorem mMet_ofW {l : Launch} {y : MethodName} {ws ws' : List Cond} {rm : Room} {Pc : Array Value → State → Prop} {Qc : Array Value → State → Outcome → State → Prop} {mc ms : Nat} {free : Addr → Prop} {cc : ByteArray} {maxL : Nat} {ret : Option FieldType}
    (hy : plainFor y = true) (hw : ws = Cond.code y cc maxL ret :: ws')
    (body : ∀ p e s m args below meth c s₁, BodyLoose p l y (headSpec ws rm) cc maxL ret e s m args below meth c s₁ → c.maxLocals = maxL → Pc args s →
      W p l e (headSpec ws rm).room s m args below meth c s.heap [] 0 0 (MQ below Qc args s mc ms free) (entryFrame m args maxL)) : Met l y ws rm Pc Qc mc ms free := by
  refine MetFree.of_bodySF (code := cc) (maxLocals := maxL) (ret := ret) hy ?_ ?_
  · intro args s m h hn
    obtain ⟨meth, c, h1, h2, h3, h4, h5, h6, -, -⟩ := Cond.code_spec hn (atoms_spec (ws := ws) h _ (by rw [hw]; exact List.mem_cons_self))
    exact ⟨meth, c, h1, h2, h3, h4, h5, h6⟩
  · intro p e s m args below meth c s₁ B hml hP _
    have hh0 : s₁.heap = s.heap := by rw [B.state]; rfl
    obtain ⟨t, a1, o, b1, b2, b3⟩ := body p e s m args below meth c s₁ B hml hP s₁ hh0 (Stand.of_body B)
    exact ⟨t, o, a1, b1, b2, ⟨b3.1, b3.2⟩⟩
theorem mSound (l : Launch) (G : mG) : ∀ d, mCs l G d (mMC mT d) := by
  intro d
  induction d with
  | zero => intro z q hq As st v st1 h; exact h.elim
  | succ d ih =>
    intro z q hq As st v st1 h
    obtain ⟨q', hq', hlen, n, hn⟩ := h
    cases hq.symm.trans hq'
    have hqm := List.mem_of_getElem? hq
    obtain ⟨k1, k2, k3, k4, k5, k6, k7⟩ := chk_M hqm
    refine mMet_ofW (cc := q.2.1) (maxL := q.2.2.1) (ret := q.2.2.2.1) k4 rfl ?_
    intro p e s m args below meth c s₁ B hml hv
    obtain ⟨rfl, hP, hK, hSR⟩ := hv
    have hts := atoms_spec (ws := Cond.code q.1 q.2.1 q.2.2.1 q.2.2.2.1 :: lw_G) B.pre
    have hF := hSR.2.2.2.2.2
    have F : mFix p s m (As.map (mTr G)).toArray c q.2.1 q.2.2.1 q.1.cls G (0, fun _ => 0) := ⟨B.exec, B.bytes, hml, findClass_of_methodNamed B.named, fun w hw => hts w (List.mem_cons_of_mem _ hw), hK, hSR, Or.inl rfl⟩
    have hS : va_S (mA G) s.heap s.heap [] := va_S.rf
    have hle : (lg_sl (As.map (mTr G))).length ≤ q.2.2.1 := by rw [mArgs_len hF]; exact hlen
    have hl0 := lv_entry (As.map (mTr G)) (n := q.2.2.1) hle
    rw [lg_entry_eq]
    generalize (lg_sl (As.map (mTr G)) ++ List.replicate (q.2.2.1 - (lg_sl (As.map (mTr G))).length) Slot.unset).toArray = lsA at hl0 ⊢
    have hl : mLo G lsA q.2.2.1 (mEntry As q.2.2.1) := by
      refine ⟨?_, ?_⟩
      · show lv_has lsA _ (mPrs G 0 (mArgs As ++ List.replicate _ none))
        rw [mPrs_entry hF]
        exact hl0
      · unfold mEntry
        rw [List.length_append, List.length_replicate]
        omega
    have hret : mRg p l e (mRm (d + 1)) s m (As.map (mTr G)).toArray below meth c 0 0 (MQ below (mQc G v st1) (As.map (mTr G)).toArray s 0 0 (mA G)) G q.2.1 q.2.2.2.1 (fun r s => r = v ∧ s = st1) := by
      intro v' st' H locs pc lsA' hQ hrt hP' hS' hdg
      obtain ⟨rfl, rfl⟩ := hQ
      have hpost : ∀ t : State, t.heap = H → s.WarmedH t.vm → mQc G v' st' (As.map (mTr G)).toArray s (.returned (v'.map (mTr G))) t := fun t ht hW =>
        ⟨rfl, ⟨by rw [ht]; exact hP', va_K.moved hW.alike hK, mSR_go ht hW hS' hSR⟩, hS'.F ht⟩
      match v', hrt, hdg, hpost with
      | none, hrt, hdg, hpost => exact W.vret B.exec B.bytes (B.returns.trans hrt) hpost hS'.2.2 hdg B.notSynchronized
      | some (.int x), hrt, hdg, hpost =>
        obtain ⟨ty, h1, h2⟩ := hrt
        exact W.zret B.exec B.bytes (B.returns.trans h1) h2 hpost hS'.2.2 hdg B.notSynchronized
      | some (.long x), hrt, hdg, hpost => exact W.lret B.exec B.bytes (B.returns.trans hrt) hpost hS'.2.2 hdg B.notSynchronized
      | some (.ref a), hrt, hdg, hpost =>
        obtain ⟨⟨nm, h1⟩, h2⟩ := hrt
        have e1 : mTr G (.ref a) = .ref (G.2.1 a) := mTr_ref h2
        have hpost' : ∀ t : State, t.heap = H → s.WarmedH t.vm → mQc G (some (.ref a)) st' (As.map (mTr G)).toArray s (.returned (some (.ref (G.2.1 a)))) t := fun t ht hW => by
          have := hpost t ht hW
          rw [Option.map_some, e1] at this
          exact this
        show W p l e (mRm (d + 1)) s m _ below meth c H locs 0 0 _ (F0 m pc lsA' [mTr G (.ref a)])
        rw [e1]
        exact W.aret B.exec B.bytes (B.returns.trans h1) (Or.inl ⟨nm, rfl⟩) (Or.inr ⟨_, rfl⟩) hpost' hS'.2.2 hdg B.notSynchronized
      | some .null, hrt, hdg, hpost =>
        obtain ⟨nm, h1⟩ := hrt
        exact W.aret B.exec B.bytes (B.returns.trans h1) (Or.inl ⟨nm, rfl⟩) (Or.inl rfl) hpost hS'.2.2 hdg B.notSynchronized
    exact mOk_sound F ih ⟨Nat.le_refl _, by show 59 + 64 * d ≤ 64 * (d + 1); omega⟩ ⟨Nat.le_refl _, Nat.le_refl _⟩ hret (ckT q hqm) n 0 _ [] st s.heap [] lsA hn hP hS hl
end
section
/-! WALKING IN THE SMALL MACHINE: a row an instruction that asks for something, a row a stretch of those that don't -/
section MWP
variable {C : Nat → List Value → mSt → Option Value → mSt → Prop} {S : Nat × (Nat → Int32)} {P : Nat → Option mE} {rt : Option FieldType} {Q : Option Value → mSt → Prop} {pc : Nat} {ls : mLs} {st : mSt} {r : List Value}
theorem w_blk (k : Nat) {sk : List Value} {pc' : Nat} {ls' : mLs} {sk' : List Value} {st' : mSt} (h : ∀ n, mOk C S P rt Q n pc' ls' sk' st' → mOk C S P rt Q (n + k) pc ls sk st) (hw : mW C S P rt Q pc' ls' sk' st') : mW C S P rt Q pc ls sk st := by
  obtain ⟨n, hn⟩ := hw
  exact ⟨n + k, h n hn⟩
theorem w_step {sk : List Value} {e : mE} (hp : P pc = some e) {pc' : Nat} {ls' : mLs} {sk' : List Value} {st' : mSt} (h : ∀ K : Nat → mLs → List Value → mSt → Prop, K pc' ls' sk' st' → mStep C S rt Q K e pc ls sk st) (hw : mW C S P rt Q pc' ls' sk' st') : mW C S P rt Q pc ls sk st := by
  obtain ⟨n, hn⟩ := hw
  refine ⟨n + 1, ?_⟩
  show match P pc with | none => False | some e => mStep C S rt Q (mOk C S P rt Q n) e pc ls sk st
  rw [hp]
  exact h _ hn
theorem w_end {sk : List Value} {e : mE} (hp : P pc = some e) (h : ∀ K : Nat → mLs → List Value → mSt → Prop, mStep C S rt Q K e pc ls sk st) : mW C S P rt Q pc ls sk st := by
  refine ⟨1, ?_⟩
  show match P pc with | none => False | some e => mStep C S rt Q (mOk C S P rt Q 0) e pc ls sk st
  rw [hp]
  exact h _
theorem w_fork {sk : List Value} {e : mE} {A : Prop} (hp : P pc = some e) {p1 p2 : Nat} {l1 l2 : mLs} {s1 s2 : List Value} {t1 t2 : mSt} (h : ∀ K : Nat → mLs → List Value → mSt → Prop, (A → K p1 l1 s1 t1) → (¬ A → K p2 l2 s2 t2) → mStep C S rt Q K e pc ls sk st) (ht : A → mW C S P rt Q p1 l1 s1 t1) (hf : ¬ A → mW C S P rt Q p2 l2 s2 t2) : mW C S P rt Q pc ls sk st := by
  by_cases hA : A
  · exact w_step hp (fun K k => h K (fun _ => k) (fun n => absurd hA n)) (ht hA)
  · exact w_step hp (fun K k => h K (fun a => absurd a hA) (fun _ => k)) (hf hA)
theorem w_if_eq {x : Int32} {o : Int} {t len : Nat} {z : Int} (hp : P pc = some (.ifCond .eq o, len, [t], z)) (ht : x = 0 → mW C S P rt Q t ls r st) (hf : ¬ (x = 0) → mW C S P rt Q (pc + 3) ls r st) : mW C S P rt Q pc ls (.int x :: r) st := w_fork (A := x = 0) hp (fun _ a b => ⟨a, b⟩) ht hf
theorem w_cmp_eq {x y : Int32} {o : Int} {t len : Nat} {z : Int} (hp : P pc = some (.if_icmp .eq o, len, [t], z)) (ht : x = y → mW C S P rt Q t ls r st) (hf : ¬ (x = y) → mW C S P rt Q (pc + 3) ls r st) : mW C S P rt Q pc ls (.int y :: .int x :: r) st := w_fork (A := x = y) hp (fun _ a b => ⟨a, b⟩) ht hf
theorem w_if_ne {x : Int32} {o : Int} {t len : Nat} {z : Int} (hp : P pc = some (.ifCond .ne o, len, [t], z)) (ht : ¬ x = 0 → mW C S P rt Q t ls r st) (hf : ¬ (¬ x = 0) → mW C S P rt Q (pc + 3) ls r st) : mW C S P rt Q pc ls (.int x :: r) st := w_fork (A := ¬ x = 0) hp (fun _ a b => ⟨a, b⟩) ht hf
theorem w_cmp_ne {x y : Int32} {o : Int} {t len : Nat} {z : Int} (hp : P pc = some (.if_icmp .ne o, len, [t], z)) (ht : ¬ x = y → mW C S P rt Q t ls r st) (hf : ¬ (¬ x = y) → mW C S P rt Q (pc + 3) ls r st) : mW C S P rt Q pc ls (.int y :: .int x :: r) st := w_fork (A := ¬ x = y) hp (fun _ a b => ⟨a, b⟩) ht hf
theorem w_if_lt {x : Int32} {o : Int} {t len : Nat} {z : Int} (hp : P pc = some (.ifCond .lt o, len, [t], z)) (ht : x < 0 → mW C S P rt Q t ls r st) (hf : ¬ (x < 0) → mW C S P rt Q (pc + 3) ls r st) : mW C S P rt Q pc ls (.int x :: r) st := w_fork (A := x < 0) hp (fun _ a b => ⟨a, b⟩) ht hf
theorem w_cmp_lt {x y : Int32} {o : Int} {t len : Nat} {z : Int} (hp : P pc = some (.if_icmp .lt o, len, [t], z)) (ht : x < y → mW C S P rt Q t ls r st) (hf : ¬ (x < y) → mW C S P rt Q (pc + 3) ls r st) : mW C S P rt Q pc ls (.int y :: .int x :: r) st := w_fork (A := x < y) hp (fun _ a b => ⟨a, b⟩) ht hf
theorem w_if_ge {x : Int32} {o : Int} {t len : Nat} {z : Int} (hp : P pc = some (.ifCond .ge o, len, [t], z)) (ht : 0 ≤ x → mW C S P rt Q t ls r st) (hf : ¬ (0 ≤ x) → mW C S P rt Q (pc + 3) ls r st) : mW C S P rt Q pc ls (.int x :: r) st := w_fork (A := 0 ≤ x) hp (fun _ a b => ⟨a, b⟩) ht hf
theorem w_cmp_ge {x y : Int32} {o : Int} {t len : Nat} {z : Int} (hp : P pc = some (.if_icmp .ge o, len, [t], z)) (ht : y ≤ x → mW C S P rt Q t ls r st) (hf : ¬ (y ≤ x) → mW C S P rt Q (pc + 3) ls r st) : mW C S P rt Q pc ls (.int y :: .int x :: r) st := w_fork (A := y ≤ x) hp (fun _ a b => ⟨a, b⟩) ht hf
theorem w_if_gt {x : Int32} {o : Int} {t len : Nat} {z : Int} (hp : P pc = some (.ifCond .gt o, len, [t], z)) (ht : 0 < x → mW C S P rt Q t ls r st) (hf : ¬ (0 < x) → mW C S P rt Q (pc + 3) ls r st) : mW C S P rt Q pc ls (.int x :: r) st := w_fork (A := 0 < x) hp (fun _ a b => ⟨a, b⟩) ht hf
theorem w_cmp_gt {x y : Int32} {o : Int} {t len : Nat} {z : Int} (hp : P pc = some (.if_icmp .gt o, len, [t], z)) (ht : y < x → mW C S P rt Q t ls r st) (hf : ¬ (y < x) → mW C S P rt Q (pc + 3) ls r st) : mW C S P rt Q pc ls (.int y :: .int x :: r) st := w_fork (A := y < x) hp (fun _ a b => ⟨a, b⟩) ht hf
theorem w_if_le {x : Int32} {o : Int} {t len : Nat} {z : Int} (hp : P pc = some (.ifCond .le o, len, [t], z)) (ht : x ≤ 0 → mW C S P rt Q t ls r st) (hf : ¬ (x ≤ 0) → mW C S P rt Q (pc + 3) ls r st) : mW C S P rt Q pc ls (.int x :: r) st := w_fork (A := x ≤ 0) hp (fun _ a b => ⟨a, b⟩) ht hf
theorem w_cmp_le {x y : Int32} {o : Int} {t len : Nat} {z : Int} (hp : P pc = some (.if_icmp .le o, len, [t], z)) (ht : x ≤ y → mW C S P rt Q t ls r st) (hf : ¬ (x ≤ y) → mW C S P rt Q (pc + 3) ls r st) : mW C S P rt Q pc ls (.int y :: .int x :: r) st := w_fork (A := x ≤ y) hp (fun _ a b => ⟨a, b⟩) ht hf
theorem w_div {x y : Int32} {len : Nat} {aux : List Nat} {z : Int} (hp : P pc = some (.idiv, len, aux, z)) (hne : ¬ y = 0) (k : mW C S P rt Q (pc + 1) ls (.int (x / y) :: r) st) : mW C S P rt Q pc ls (.int y :: .int x :: r) st := w_step hp (fun _ k => ⟨hne, k⟩) k
theorem w_rem {x y : Int32} {len : Nat} {aux : List Nat} {z : Int} (hp : P pc = some (.irem, len, aux, z)) (hne : ¬ y = 0) (k : mW C S P rt Q (pc + 1) ls (.int (x - x / y * y) :: r) st) : mW C S P rt Q pc ls (.int y :: .int x :: r) st := w_step hp (fun _ k => ⟨hne, k⟩) k
theorem vp_in_nat {i : Int32} {n : Nat} (h : vp_in i n) : i.toNatClampNeg < n := Nat.not_le.mp fun q => h (Or.inr q)
theorem w_iald {i : Int32} {a n len : Nat} {fs : List (Nat × Nat)} {aux : List Nat} {z : Int} (hp : P pc = some (.iaload, len, aux, z)) (hl : lay a = (0, n, fs)) (hin : vp_in i n) (k : mW C S P rt Q (pc + 1) ls (.int (st.1 a i.toNatClampNeg) :: r) st) : mW C S P rt Q pc ls (.int i :: .ref a :: r) st := w_step hp (fun K k => by
  show match lay a with
      | (0, n, _) => vp_in i n ∧ K (pc + 1) ls (.int (st.1 a i.toNatClampNeg) :: r) st
      | (7, _, _) => vp_in i (S.1 - 1) ∧ K (pc + 1) ls (.int (S.2 i.toNatClampNeg) :: r) st
      | _ => False
  rw [hl]
  exact ⟨hin, k⟩) k
theorem w_sald {i : Int32} {n len : Nat} {fs : List (Nat × Nat)} {aux : List Nat} {z : Int} (hp : P pc = some (.iaload, len, aux, z)) (hin : vp_in i (S.1 - 1)) (k : mW C S P rt Q (pc + 1) ls (.int (S.2 i.toNatClampNeg) :: r) st) : mW C S P rt Q pc ls (.int i :: .ref 120 :: r) st := w_step hp (fun K k => ⟨hin, k⟩) k
theorem w_slen {len : Nat} {aux : List Nat} {z : Int} (hp : P pc = some (.arraylength, len, aux, z)) (h0 : 0 < S.1) (k : mW C S P rt Q (pc + 1) ls (.int (Int32.ofNat (S.1 - 1)) :: r) st) : mW C S P rt Q pc ls (.ref 120 :: r) st := w_step hp (fun K k => ⟨h0, k⟩) k
theorem w_alen {a n len : Nat} {fs : List (Nat × Nat)} {aux : List Nat} {z : Int} (hp : P pc = some (.arraylength, len, aux, z)) (hl : lay a = (0, n, fs)) (k : mW C S P rt Q (pc + 1) ls (.int (nI n) :: r) st) : mW C S P rt Q pc ls (.ref a :: r) st := w_step hp (fun K k => by
  show match lay a with
      | (0, n, _) => K (pc + 1) ls (.int (Int32.ofNat n) :: r) st
      | (1, n, _) => K (pc + 1) ls (.int (Int32.ofNat n) :: r) st
      | (2, n, _) => K (pc + 1) ls (.int (Int32.ofNat n) :: r) st
      | (3, n, _) => K (pc + 1) ls (.int (Int32.ofNat n) :: r) st
      | (6, j, _) => K (pc + 1) ls (.int (Int32.ofNat (lenK.getD j 0)) :: r) st
      | (7, _, _) => 0 < S.1 ∧ K (pc + 1) ls (.int (Int32.ofNat (S.1 - 1)) :: r) st
      | _ => False
  rw [hl]
  exact k) k
theorem w_bald1 {i : Int32} {a n len : Nat} {fs : List (Nat × Nat)} {aux : List Nat} {z : Int} (hp : P pc = some (.baload, len, aux, z)) (hl : lay a = (1, n, fs)) (hin : vp_in i n) (k : mW C S P rt Q (pc + 1) ls (.int (st.1 a i.toNatClampNeg) :: r) st) : mW C S P rt Q pc ls (.int i :: .ref a :: r) st := w_step hp (fun K k => by
  show match lay a with
      | (1, n, _) => vp_in i n ∧ K (pc + 1) ls (.int (st.1 a i.toNatClampNeg) :: r) st
      | (2, n, _) => vp_in i n ∧ K (pc + 1) ls (.int (st.1 a i.toNatClampNeg) :: r) st
      | (6, j, _) => vp_in i (lenK.getD j 0) ∧ K (pc + 1) ls (.int ((bytK.getD j []).getD i.toNatClampNeg 0) :: r) st
      | _ => False
  rw [hl]
  exact ⟨hin, k⟩) k
theorem w_bald2 {i : Int32} {a n len : Nat} {fs : List (Nat × Nat)} {aux : List Nat} {z : Int} (hp : P pc = some (.baload, len, aux, z)) (hl : lay a = (2, n, fs)) (hin : vp_in i n) (k : mW C S P rt Q (pc + 1) ls (.int (st.1 a i.toNatClampNeg) :: r) st) : mW C S P rt Q pc ls (.int i :: .ref a :: r) st := w_step hp (fun K k => by
  show match lay a with
      | (1, n, _) => vp_in i n ∧ K (pc + 1) ls (.int (st.1 a i.toNatClampNeg) :: r) st
      | (2, n, _) => vp_in i n ∧ K (pc + 1) ls (.int (st.1 a i.toNatClampNeg) :: r) st
      | (6, j, _) => vp_in i (lenK.getD j 0) ∧ K (pc + 1) ls (.int ((bytK.getD j []).getD i.toNatClampNeg 0) :: r) st
      | _ => False
  rw [hl]
  exact ⟨hin, k⟩) k
theorem w_bald6 {i : Int32} {a j len : Nat} {fs : List (Nat × Nat)} {aux : List Nat} {z : Int} (hp : P pc = some (.baload, len, aux, z)) (hl : lay a = (6, j, fs)) (hin : vp_in i (lenK.getD j 0)) (k : mW C S P rt Q (pc + 1) ls (.int ((bytK.getD j []).getD i.toNatClampNeg 0) :: r) st) : mW C S P rt Q pc ls (.int i :: .ref a :: r) st := w_step hp (fun K k => by
  show match lay a with
      | (1, n, _) => vp_in i n ∧ K (pc + 1) ls (.int (st.1 a i.toNatClampNeg) :: r) st
      | (2, n, _) => vp_in i n ∧ K (pc + 1) ls (.int (st.1 a i.toNatClampNeg) :: r) st
      | (6, j, _) => vp_in i (lenK.getD j 0) ∧ K (pc + 1) ls (.int ((bytK.getD j []).getD i.toNatClampNeg 0) :: r) st
      | _ => False
  rw [hl]
  exact ⟨hin, k⟩) k
theorem w_aald {i : Int32} {a n len q : Nat} {fs : List (Nat × Nat)} {f : Nat × Nat} {aux : List Nat} {z : Int} (hp : P pc = some (.aaload, len, aux, z)) (hl : lay a = (3, n, fs)) (hin : vp_in i n) (hf : fs[i.toNatClampNeg]? = some f) (k : mW C S P rt Q (pc + 1) ls (.ref f.2 :: r) st) : mW C S P rt Q pc ls (.int i :: .ref a :: r) st := w_step hp (fun K k => by
  show match lay a with
      | (3, n, fs) => vp_in i n ∧ match fs[i.toNatClampNeg]? with | some f => K (pc + 1) ls (.ref f.2 :: r) st | none => False
      | _ => False
  rw [hl]
  refine ⟨hin, ?_⟩
  rw [hf]
  exact k) k
theorem w_iast {x i : Int32} {a n len : Nat} {fs : List (Nat × Nat)} {aux : List Nat} {z : Int} (hp : P pc = some (.iastore, len, aux, z)) (hl : lay a = (0, n, fs)) (hin : vp_in i n) (k : mW C S P rt Q (pc + 1) ls r (mU st.1 a i.toNatClampNeg x, st.2)) : mW C S P rt Q pc ls (.int x :: .int i :: .ref a :: r) st := w_step hp (fun K k => by
  show match lay a with
      | (0, n, _) => vp_in i n ∧ K (pc + 1) ls r (mU st.1 a i.toNatClampNeg x, st.2)
      | _ => False
  rw [hl]
  exact ⟨hin, k⟩) k
theorem w_bast1 {x i : Int32} {a n len : Nat} {fs : List (Nat × Nat)} {aux : List Nat} {z : Int} (hp : P pc = some (.bastore, len, aux, z)) (hl : lay a = (1, n, fs)) (hin : vp_in i n) (k : mW C S P rt Q (pc + 1) ls r (mU st.1 a i.toNatClampNeg (vp_nar .byte x), st.2)) : mW C S P rt Q pc ls (.int x :: .int i :: .ref a :: r) st := w_step hp (fun K k => by
  show match lay a with
      | (1, n, _) => vp_in i n ∧ K (pc + 1) ls r (mU st.1 a i.toNatClampNeg (vp_nar .byte x), st.2)
      | (2, n, _) => vp_in i n ∧ K (pc + 1) ls r (mU st.1 a i.toNatClampNeg (vp_nar .boolean x), st.2)
      | _ => False
  rw [hl]
  exact ⟨hin, k⟩) k
theorem w_bast2 {x i : Int32} {a n len : Nat} {fs : List (Nat × Nat)} {aux : List Nat} {z : Int} (hp : P pc = some (.bastore, len, aux, z)) (hl : lay a = (2, n, fs)) (hin : vp_in i n) (hx : x = 0 ∨ x = 1) (k : mW C S P rt Q (pc + 1) ls r (mU st.1 a i.toNatClampNeg x, st.2)) : mW C S P rt Q pc ls (.int x :: .int i :: .ref a :: r) st := w_step hp (fun K k => by
  show match lay a with
      | (1, n, _) => vp_in i n ∧ K (pc + 1) ls r (mU st.1 a i.toNatClampNeg (vp_nar .byte x), st.2)
      | (2, n, _) => vp_in i n ∧ K (pc + 1) ls r (mU st.1 a i.toNatClampNeg (vp_nar .boolean x), st.2)
      | _ => False
  rw [hl]
  have e : vp_nar .boolean x = x := by rcases hx with rfl | rfl <;> rfl
  rw [e]
  exact ⟨hin, k⟩) k
theorem w_putZ {x : Int32} {i p c k0 len : Nat} {w : List Nat} {fs : List (Nat × Nat)} {q : Nat} {z : Int} (hp : P pc = some (.putfield i, len, c :: k0 :: w, z)) (hl : lay p = (4, c, fs)) (hf : fs[k0]? = some (5, q)) (hx : x = 0 ∨ x = 1) (k : mW C S P rt Q (pc + 3) ls r (mU st.1 p k0 x, st.2)) : mW C S P rt Q pc ls (.int x :: .ref p :: r) st := w_step hp (fun K k => by
  show match lay p with
      | (4, c', fs) => bif Nat.beq c' c then (match fs[k0]?, (Value.int x) with
        | some (0, _), .int x => K (pc + 3) ls r (mU st.1 p k0 x, st.2)
        | some (5, _), .int x => (x = 0 ∨ x = 1) ∧ K (pc + 3) ls r (mU st.1 p k0 x, st.2)
        | some (1, _), .long x => K (pc + 3) ls r (st.1, mUL st.2 p k0 x)
        | some (3, _), .ref q => bif Nat.blt q 86 then K (pc + 3) ls r (mU st.1 p k0 (nI q), st.2) else False
        | _, _ => False) else False
      | _ => False
  rw [hl]
  have e : Nat.beq c c = true := Nat.beq_refl c
  simp only [e, cond_true, hf]
  exact ⟨hx, k⟩) k
theorem w_aload_n {i : Fin 4} {a len : Nat} {aux : List Nat} {z : Int} (hp : P pc = some (.aload_n i, len, aux, z)) (hg : mGet ls i = some (.ref a)) (ha : Nat.beq a 130 = false) (k : mW C S P rt Q (pc + 1) ls (.ref a :: r) st) : mW C S P rt Q pc ls r st := w_step hp (fun K k => by
  show match mGet ls i with | some (.ref x) => (bif Nat.beq x 130 then False else K (pc + 1) ls (.ref x :: r) st) | some .null => K (pc + 1) ls (.null :: r) st | _ => False
  rw [hg]
  simp only [ha, cond_false]
  exact k) k
theorem w_callS {i z n len : Nat} {t : List Nat} {c : Int} {sk As rest : List Value} {v : Option Value} {st1 : mSt} (hp : P pc = some (.invokestatic i, len, z :: n :: t, c)) (hA : (sk.take n).reverse = As) (hr : sk.drop n = rest) (hn : n ≤ sk.length) (hc : mCat rest ≤ 8) (hC : C z As st v st1) (k : mW C S P rt Q (pc + 3) ls (v.toList ++ rest) st1) : mW C S P rt Q pc ls sk st := w_step hp (fun K k => by
  subst hA; subst hr
  exact ⟨hn, hc, v, st1, hC, k⟩) k
theorem w_callV {i z n ci len : Nat} {t : List Nat} {c : Int} {sk As rest : List Value} {v : Option Value} {st1 : mSt} (hp : P pc = some (.invokevirtual i, len, z :: n :: ci :: t, c)) (hA : (sk.take (n + 1)).reverse = As) (hr : sk.drop (n + 1) = rest) (hn : n + 1 ≤ sk.length) (hc : mCat rest ≤ 8) (hrc : mRecv ci (sk.getD n .null)) (hC : C z As st v st1) (k : mW C S P rt Q (pc + 3) ls (v.toList ++ rest) st1) : mW C S P rt Q pc ls sk st := w_step hp (fun K k => by
  subst hA; subst hr
  exact ⟨hn, hc, hrc, v, st1, hC, k⟩) k
theorem w_iret {v : Int32} {ty : FieldType} {len : Nat} {aux : List Nat} {z : Int} (hp : P pc = some (.ireturn, len, aux, z)) (hrt : rt = some ty) (hn : narrow ty (.int v) = .int v) (hq : Q (some (.int v)) st) : mW C S P rt Q pc ls [.int v] st := w_end hp (fun _ => ⟨⟨ty, hrt, hn⟩, hq⟩)
theorem w_lret {v : Int64} {len : Nat} {aux : List Nat} {z : Int} (hp : P pc = some (.lreturn, len, aux, z)) (hrt : rt = some .long) (hq : Q (some (.long v)) st) : mW C S P rt Q pc ls [.long v] st := w_end hp (fun _ => ⟨hrt, hq⟩)
theorem w_aret {a len : Nat} {n : String} {aux : List Nat} {z : Int} (hp : P pc = some (.areturn, len, aux, z)) (hrt : rt = some (.object n)) (ha : a ≠ 130) (hq : Q (some (.ref a)) st) : mW C S P rt Q pc ls [.ref a] st := w_end hp (fun _ => ⟨⟨⟨n, hrt⟩, ha⟩, hq⟩)
theorem w_aretN {len : Nat} {n : String} {aux : List Nat} {z : Int} (hp : P pc = some (.areturn, len, aux, z)) (hrt : rt = some (.object n)) (hq : Q (some .null) st) : mW C S P rt Q pc ls [.null] st := w_end hp (fun _ => ⟨⟨n, hrt⟩, hq⟩)
theorem w_vret {len : Nat} {aux : List Nat} {z : Int} (hp : P pc = some (.return_, len, aux, z)) (hrt : rt = none) (hq : Q none st) : mW C S P rt Q pc ls [] st := w_end hp (fun _ => ⟨hrt, hq⟩)
theorem w_tblOut {x : Int32} {d lo hi : Int} {offs : Array Int} {t len : Nat} {aux : List Nat} {z : Int} (hp : P pc = some (.tableswitch d lo hi offs, len, aux, z)) (h : x.toInt < lo ∨ hi < x.toInt) (ht : (pc : Int) + d = (t : Int)) (k : mW C S P rt Q t ls r st) : mW C S P rt Q pc ls (.int x :: r) st := w_step hp (fun K k => by
  show if x.toInt < lo ∨ hi < x.toInt then mJ pc d ∧ K (mTgt pc d) ls r st else match offs[(x.toInt - lo).toNat]? with | some o => mJ pc o ∧ K (mTgt pc o) ls r st | none => False
  rw [if_pos h]
  refine ⟨by unfold mJ; omega, ?_⟩
  have e : mTgt pc d = t := by unfold mTgt; omega
  rw [e]
  exact k) k
theorem w_tblIn {x : Int32} {d lo hi o : Int} {offs : Array Int} {t len : Nat} {aux : List Nat} {z : Int} (hp : P pc = some (.tableswitch d lo hi offs, len, aux, z)) (h1 : lo ≤ x.toInt) (h2 : x.toInt ≤ hi) (ho : offs[(x.toInt - lo).toNat]? = some o) (ht : (pc : Int) + o = (t : Int)) (k : mW C S P rt Q t ls r st) : mW C S P rt Q pc ls (.int x :: r) st := w_step hp (fun K k => by
  show if x.toInt < lo ∨ hi < x.toInt then mJ pc d ∧ K (mTgt pc d) ls r st else match offs[(x.toInt - lo).toNat]? with | some o => mJ pc o ∧ K (mTgt pc o) ls r st | none => False
  rw [if_neg (by omega), ho]
  refine ⟨by unfold mJ; omega, ?_⟩
  have e : mTgt pc o = t := by unfold mTgt; omega
  rw [e]
  exact k) k
theorem w_lookup {x : Int32} {d o : Int} {ps : Array (Int × Int)} {t len : Nat} {aux : List Nat} {z : Int} (hp : P pc = some (.lookupswitch d ps, len, aux, z)) (hs : (ps.toList.zip (ps.toList.drop 1)).all (fun (a, next) => a.1 < next.1) = true) (ho : Op.lookupswitch.offset ps.toList d x.toInt = o) (ht : (pc : Int) + o = (t : Int)) (k : mW C S P rt Q t ls r st) : mW C S P rt Q pc ls (.int x :: r) st := w_step hp (fun K k => by
  refine ⟨hs, ?_, ?_⟩
  · rw [ho]; unfold mJ; omega
  · have e : mTgt pc (Op.lookupswitch.offset ps.toList d x.toInt) = t := by rw [ho]; unfold mTgt; omega
    rw [e]
    exact k) k
end MWP
/-- a method of the table does what its rows do -/
theorem mMC_of {d z : Nat} {args : List Value} {st st1 : mSt} {v : Option Value} {q : mM} (hq : mT[z]? = some q) (hl : (mArgs args).length ≤ q.2.2.1) (h : mW (mMC mT d) (0, fun _ => 0) (mAtL q.2.2.2.2.2.2.2) q.2.2.2.1 (fun r s => r = v ∧ s = st1) 0 (mEntry args q.2.2.1) [] st) : mMC mT (d + 1) z args st v st1 := ⟨q, hq, hl, h⟩
end
section
/-! each method of the table, entered -/
theorem mI_J6_bitCount_0f7a4 {d : Nat} {args : List Value} {st st1 : mSt} {v : Option Value} (hl : (mArgs args).length ≤ 1) (h : ∀ Q : Option Value → mSt → Prop, Q v st1 → mW (mMC mT d) (0, fun _ => 0) (mAtL P_J6_bitCount_0f7a4) (some .int) Q 0 (mEntry args 1) [] st) : mMC mT (d + 1) 0 args st v st1 := mMC_of (q := (yJ6_bitCount_0f7a4, cJ6_bitCount_0f7a4, 1, (some .int), 1, 731, 87, P_J6_bitCount_0f7a4)) rfl hl (h _ ⟨rfl, rfl⟩)
theorem mI_J13_bitCount_95d88 {d : Nat} {args : List Value} {st st1 : mSt} {v : Option Value} (hl : (mArgs args).length ≤ 2) (h : ∀ Q : Option Value → mSt → Prop, Q v st1 → mW (mMC mT d) (0, fun _ => 0) (mAtL P_J13_bitCount_95d88) (some .int) Q 0 (mEntry args 2) [] st) : mMC mT (d + 1) 1 args st v st1 := mMC_of (q := (yJ13_bitCount_95d88, cJ13_bitCount_95d88, 2, (some .int), 1, 933, 88, P_J13_bitCount_95d88)) rfl hl (h _ ⟨rfl, rfl⟩)
theorem mI_J9_floorMod_7cf53 {d : Nat} {args : List Value} {st st1 : mSt} {v : Option Value} (hl : (mArgs args).length ≤ 3) (h : ∀ Q : Option Value → mSt → Prop, Q v st1 → mW (mMC mT d) (0, fun _ => 0) (mAtL P_J9_floorMod_7cf53) (some .int) Q 0 (mEntry args 3) [] st) : mMC mT (d + 1) 2 args st v st1 := mMC_of (q := (yJ9_floorMod_7cf53, cJ9_floorMod_7cf53, 3, (some .int), 2, 866, 86, P_J9_floorMod_7cf53)) rfl hl (h _ ⟨rfl, rfl⟩)
theorem mI_J9_max_7cf53 {d : Nat} {args : List Value} {st st1 : mSt} {v : Option Value} (hl : (mArgs args).length ≤ 2) (h : ∀ Q : Option Value → mSt → Prop, Q v st1 → mW (mMC mT d) (0, fun _ => 0) (mAtL P_J9_max_7cf53) (some .int) Q 0 (mEntry args 2) [] st) : mMC mT (d + 1) 3 args st v st1 := mMC_of (q := (yJ9_max_7cf53, cJ9_max_7cf53, 2, (some .int), 2, 673, 86, P_J9_max_7cf53)) rfl hl (h _ ⟨rfl, rfl⟩)
theorem mI_J9_min_7cf53 {d : Nat} {args : List Value} {st st1 : mSt} {v : Option Value} (hl : (mArgs args).length ≤ 2) (h : ∀ Q : Option Value → mSt → Prop, Q v st1 → mW (mMC mT d) (0, fun _ => 0) (mAtL P_J9_min_7cf53) (some .int) Q 0 (mEntry args 2) [] st) : mMC mT (d + 1) 4 args st v st1 := mMC_of (q := (yJ9_min_7cf53, cJ9_min_7cf53, 2, (some .int), 2, 685, 86, P_J9_min_7cf53)) rfl hl (h _ ⟨rfl, rfl⟩)
theorem mI_J0_length_8abf5 {d : Nat} {args : List Value} {st st1 : mSt} {v : Option Value} (hl : (mArgs args).length ≤ 1) (h : ∀ Q : Option Value → mSt → Prop, Q v st1 → mW (mMC mT d) (0, fun _ => 0) (mAtL P_J0_length_8abf5) (some .int) Q 0 (mEntry args 1) [] st) : mMC mT (d + 1) 5 args st v st1 := mMC_of (q := (yJ0_length_8abf5, cJ0_length_8abf5, 1, (some .int), 0, 492, 82, P_J0_length_8abf5)) rfl hl (h _ ⟨rfl, rfl⟩)
theorem mI_J0_coder_7d493 {d : Nat} {args : List Value} {st st1 : mSt} {v : Option Value} (hl : (mArgs args).length ≤ 1) (h : ∀ Q : Option Value → mSt → Prop, Q v st1 → mW (mMC mT d) (0, fun _ => 0) (mAtL P_J0_coder_7d493) (some .byte) Q 0 (mEntry args 1) [] st) : mMC mT (d + 1) 6 args st v st1 := mMC_of (q := (yJ0_coder_7d493, cJ0_coder_7d493, 1, (some .byte), 0, 496, 82, P_J0_coder_7d493)) rfl hl (h _ ⟨rfl, rfl⟩)
theorem mI_J0_charAt_5068e {d : Nat} {args : List Value} {st st1 : mSt} {v : Option Value} (hl : (mArgs args).length ≤ 2) (h : ∀ Q : Option Value → mSt → Prop, Q v st1 → mW (mMC mT d) (0, fun _ => 0) (mAtL P_J0_charAt_5068e) (some .char) Q 0 (mEntry args 2) [] st) : mMC mT (d + 1) 7 args st v st1 := mMC_of (q := (yJ0_charAt_5068e, cJ0_charAt_5068e, 2, (some .char), 1, 502, 82, P_J0_charAt_5068e)) rfl hl (h _ ⟨rfl, rfl⟩)
theorem mI_J0_isLatin1_aae02 {d : Nat} {args : List Value} {st st1 : mSt} {v : Option Value} (hl : (mArgs args).length ≤ 1) (h : ∀ Q : Option Value → mSt → Prop, Q v st1 → mW (mMC mT d) (0, fun _ => 0) (mAtL P_J0_isLatin1_aae02) (some .boolean) Q 0 (mEntry args 1) [] st) : mMC mT (d + 1) 8 args st v st1 := mMC_of (q := (yJ0_isLatin1_aae02, cJ0_isLatin1_aae02, 1, (some .boolean), 0, 506, 82, P_J0_isLatin1_aae02)) rfl hl (h _ ⟨rfl, rfl⟩)
theorem mI_J0_checkIndex_df160 {d : Nat} {args : List Value} {st st1 : mSt} {v : Option Value} (hl : (mArgs args).length ≤ 2) (h : ∀ Q : Option Value → mSt → Prop, Q v st1 → mW (mMC mT d) (0, fun _ => 0) (mAtL P_J0_checkIndex_df160) none Q 0 (mEntry args 2) [] st) : mMC mT (d + 1) 9 args st v st1 := mMC_of (q := (yJ0_checkIndex_df160, cJ0_checkIndex_df160, 2, none, 2, 512, 82, P_J0_checkIndex_df160)) rfl hl (h _ ⟨rfl, rfl⟩)
theorem mI_J1_charAt_3b067 {d : Nat} {args : List Value} {st st1 : mSt} {v : Option Value} (hl : (mArgs args).length ≤ 2) (h : ∀ Q : Option Value → mSt → Prop, Q v st1 → mW (mMC mT d) (0, fun _ => 0) (mAtL P_J1_charAt_3b067) (some .char) Q 0 (mEntry args 2) [] st) : mMC mT (d + 1) 10 args st v st1 := mMC_of (q := (yJ1_charAt_3b067, cJ1_charAt_3b067, 2, (some .char), 2, 509, 83, P_J1_charAt_3b067)) rfl hl (h _ ⟨rfl, rfl⟩)
theorem mI_J3_checkIndex_8e157 {d : Nat} {args : List Value} {st st1 : mSt} {v : Option Value} (hl : (mArgs args).length ≤ 3) (h : ∀ Q : Option Value → mSt → Prop, Q v st1 → mW (mMC mT d) (0, fun _ => 0) (mAtL P_J3_checkIndex_8e157) (some .int) Q 0 (mEntry args 3) [] st) : mMC mT (d + 1) 11 args st v st1 := mMC_of (q := (yJ3_checkIndex_8e157, cJ3_checkIndex_8e157, 3, (some .int), 3, 517, 84, P_J3_checkIndex_8e157)) rfl hl (h _ ⟨rfl, rfl⟩)
theorem mI_X0_work {d : Nat} {args : List Value} {st st1 : mSt} {v : Option Value} (hl : (mArgs args).length ≤ 5) (h : ∀ Q : Option Value → mSt → Prop, Q v st1 → mW (mMC mT d) (0, fun _ => 0) (mAtL P_X0_work) none Q 0 (mEntry args 5) [] st) : mMC mT (d + 1) 12 args st v st1 := mMC_of (q := (yX0_work, cX0_work, 5, none, 2, 713, 75, P_X0_work)) rfl hl (h _ ⟨rfl, rfl⟩)
theorem mI_X0_look {d : Nat} {args : List Value} {st st1 : mSt} {v : Option Value} (hl : (mArgs args).length ≤ 8) (h : ∀ Q : Option Value → mSt → Prop, Q v st1 → mW (mMC mT d) (0, fun _ => 0) (mAtL P_X0_look) (some .long) Q 0 (mEntry args 8) [] st) : mMC mT (d + 1) 13 args st v st1 := mMC_of (q := (yX0_look, cX0_look, 8, (some .long), 2, 717, 75, P_X0_look)) rfl hl (h _ ⟨rfl, rfl⟩)
theorem mI_X0_findRounds {d : Nat} {args : List Value} {st st1 : mSt} {v : Option Value} (hl : (mArgs args).length ≤ 3) (h : ∀ Q : Option Value → mSt → Prop, Q v st1 → mW (mMC mT d) (0, fun _ => 0) (mAtL P_X0_findRounds) (some .int) Q 0 (mEntry args 3) [] st) : mMC mT (d + 1) 14 args st v st1 := mMC_of (q := (yX0_findRounds, cX0_findRounds, 3, (some .int), 0, 724, 75, P_X0_findRounds)) rfl hl (h _ ⟨rfl, rfl⟩)
theorem mI_X0_fits {d : Nat} {args : List Value} {st st1 : mSt} {v : Option Value} (hl : (mArgs args).length ≤ 6) (h : ∀ Q : Option Value → mSt → Prop, Q v st1 → mW (mMC mT d) (0, fun _ => 0) (mAtL P_X0_fits) (some .boolean) Q 0 (mEntry args 6) [] st) : mMC mT (d + 1) 15 args st v st1 := mMC_of (q := (yX0_fits, cX0_fits, 6, (some .boolean), 3, 728, 75, P_X0_fits)) rfl hl (h _ ⟨rfl, rfl⟩)
theorem mI_X0_bearable {d : Nat} {args : List Value} {st st1 : mSt} {v : Option Value} (hl : (mArgs args).length ≤ 7) (h : ∀ Q : Option Value → mSt → Prop, Q v st1 → mW (mMC mT d) (0, fun _ => 0) (mAtL P_X0_bearable) (some .int) Q 0 (mEntry args 7) [] st) : mMC mT (d + 1) 16 args st v st1 := mMC_of (q := (yX0_bearable, cX0_bearable, 7, (some .int), 3, 738, 75, P_X0_bearable)) rfl hl (h _ ⟨rfl, rfl⟩)
theorem mI_X0_place {d : Nat} {args : List Value} {st st1 : mSt} {v : Option Value} (hl : (mArgs args).length ≤ 4) (h : ∀ Q : Option Value → mSt → Prop, Q v st1 → mW (mMC mT d) (0, fun _ => 0) (mAtL P_X0_place) (some .boolean) Q 0 (mEntry args 4) [] st) : mMC mT (d + 1) 17 args st v st1 := mMC_of (q := (yX0_place, cX0_place, 4, (some .boolean), 2, 742, 75, P_X0_place)) rfl hl (h _ ⟨rfl, rfl⟩)
theorem mI_X0_placeWith {d : Nat} {args : List Value} {st st1 : mSt} {v : Option Value} (hl : (mArgs args).length ≤ 5) (h : ∀ Q : Option Value → mSt → Prop, Q v st1 → mW (mMC mT d) (0, fun _ => 0) (mAtL P_X0_placeWith) (some .boolean) Q 0 (mEntry args 5) [] st) : mMC mT (d + 1) 18 args st v st1 := mMC_of (q := (yX0_placeWith, cX0_placeWith, 5, (some .boolean), 3, 747, 75, P_X0_placeWith)) rfl hl (h _ ⟨rfl, rfl⟩)
theorem mI_X1_empty {d : Nat} {args : List Value} {st st1 : mSt} {v : Option Value} (hl : (mArgs args).length ≤ 1) (h : ∀ Q : Option Value → mSt → Prop, Q v st1 → mW (mMC mT d) (0, fun _ => 0) (mAtL P_X1_empty) none Q 0 (mEntry args 1) [] st) : mMC mT (d + 1) 19 args st v st1 := mMC_of (q := (yX1_empty, cX1_empty, 1, none, 0, 544, 73, P_X1_empty)) rfl hl (h _ ⟨rfl, rfl⟩)
theorem mI_X1_hasDigger {d : Nat} {args : List Value} {st st1 : mSt} {v : Option Value} (hl : (mArgs args).length ≤ 2) (h : ∀ Q : Option Value → mSt → Prop, Q v st1 → mW (mMC mT d) (0, fun _ => 0) (mAtL P_X1_hasDigger) (some .boolean) Q 0 (mEntry args 2) [] st) : mMC mT (d + 1) 20 args st v st1 := mMC_of (q := (yX1_hasDigger, cX1_hasDigger, 2, (some .boolean), 1, 613, 73, P_X1_hasDigger)) rfl hl (h _ ⟨rfl, rfl⟩)
theorem mI_X1_hasSpade {d : Nat} {args : List Value} {st st1 : mSt} {v : Option Value} (hl : (mArgs args).length ≤ 2) (h : ∀ Q : Option Value → mSt → Prop, Q v st1 → mW (mMC mT d) (0, fun _ => 0) (mAtL P_X1_hasSpade) (some .boolean) Q 0 (mEntry args 2) [] st) : mMC mT (d + 1) 21 args st v st1 := mMC_of (q := (yX1_hasSpade, cX1_hasSpade, 2, (some .boolean), 1, 622, 73, P_X1_hasSpade)) rfl hl (h _ ⟨rfl, rfl⟩)
theorem mI_X1_hasYard {d : Nat} {args : List Value} {st st1 : mSt} {v : Option Value} (hl : (mArgs args).length ≤ 2) (h : ∀ Q : Option Value → mSt → Prop, Q v st1 → mW (mMC mT d) (0, fun _ => 0) (mAtL P_X1_hasYard) (some .boolean) Q 0 (mEntry args 2) [] st) : mMC mT (d + 1) 22 args st v st1 := mMC_of (q := (yX1_hasYard, cX1_hasYard, 2, (some .boolean), 1, 634, 73, P_X1_hasYard)) rfl hl (h _ ⟨rfl, rfl⟩)
theorem mI_X1_addDigger {d : Nat} {args : List Value} {st st1 : mSt} {v : Option Value} (hl : (mArgs args).length ≤ 4) (h : ∀ Q : Option Value → mSt → Prop, Q v st1 → mW (mMC mT d) (0, fun _ => 0) (mAtL P_X1_addDigger) none Q 0 (mEntry args 4) [] st) : mMC mT (d + 1) 23 args st v st1 := mMC_of (q := (yX1_addDigger, cX1_addDigger, 4, none, 3, 573, 73, P_X1_addDigger)) rfl hl (h _ ⟨rfl, rfl⟩)
theorem mI_X1_addSpade {d : Nat} {args : List Value} {st st1 : mSt} {v : Option Value} (hl : (mArgs args).length ≤ 3) (h : ∀ Q : Option Value → mSt → Prop, Q v st1 → mW (mMC mT d) (0, fun _ => 0) (mAtL P_X1_addSpade) none Q 0 (mEntry args 3) [] st) : mMC mT (d + 1) 24 args st v st1 := mMC_of (q := (yX1_addSpade, cX1_addSpade, 3, none, 2, 585, 73, P_X1_addSpade)) rfl hl (h _ ⟨rfl, rfl⟩)
theorem mI_X1_addYard {d : Nat} {args : List Value} {st st1 : mSt} {v : Option Value} (hl : (mArgs args).length ≤ 3) (h : ∀ Q : Option Value → mSt → Prop, Q v st1 → mW (mMC mT d) (0, fun _ => 0) (mAtL P_X1_addYard) none Q 0 (mEntry args 3) [] st) : mMC mT (d + 1) 25 args st v st1 := mMC_of (q := (yX1_addYard, cX1_addYard, 3, none, 2, 593, 73, P_X1_addYard)) rfl hl (h _ ⟨rfl, rfl⟩)
theorem mI_X1_suits {d : Nat} {args : List Value} {st st1 : mSt} {v : Option Value} (hl : (mArgs args).length ≤ 4) (h : ∀ Q : Option Value → mSt → Prop, Q v st1 → mW (mMC mT d) (0, fun _ => 0) (mAtL P_X1_suits) (some .boolean) Q 0 (mEntry args 4) [] st) : mMC mT (d + 1) 26 args st v st1 := mMC_of (q := (yX1_suits, cX1_suits, 4, (some .boolean), 2, 646, 73, P_X1_suits)) rfl hl (h _ ⟨rfl, rfl⟩)
theorem mI_X1_product {d : Nat} {args : List Value} {st st1 : mSt} {v : Option Value} (hl : (mArgs args).length ≤ 3) (h : ∀ Q : Option Value → mSt → Prop, Q v st1 → mW (mMC mT d) (0, fun _ => 0) (mAtL P_X1_product) (some .int) Q 0 (mEntry args 3) [] st) : mMC mT (d + 1) 27 args st v st1 := mMC_of (q := (yX1_product, cX1_product, 3, (some .int), 2, 667, 73, P_X1_product)) rfl hl (h _ ⟨rfl, rfl⟩)
theorem mI_X1_clodsOf {d : Nat} {args : List Value} {st st1 : mSt} {v : Option Value} (hl : (mArgs args).length ≤ 2) (h : ∀ Q : Option Value → mSt → Prop, Q v st1 → mW (mMC mT d) (0, fun _ => 0) (mAtL P_X1_clodsOf) (some .int) Q 0 (mEntry args 2) [] st) : mMC mT (d + 1) 28 args st v st1 := mMC_of (q := (yX1_clodsOf, cX1_clodsOf, 2, (some .int), 1, 841, 73, P_X1_clodsOf)) rfl hl (h _ ⟨rfl, rfl⟩)
theorem mI_X1_allClods {d : Nat} {args : List Value} {st st1 : mSt} {v : Option Value} (hl : (mArgs args).length ≤ 3) (h : ∀ Q : Option Value → mSt → Prop, Q v st1 → mW (mMC mT d) (0, fun _ => 0) (mAtL P_X1_allClods) (some .int) Q 0 (mEntry args 3) [] st) : mMC mT (d + 1) 29 args st v st1 := mMC_of (q := (yX1_allClods, cX1_allClods, 3, (some .int), 0, 837, 73, P_X1_allClods)) rfl hl (h _ ⟨rfl, rfl⟩)
theorem mI_X1_yardOfClod {d : Nat} {args : List Value} {st st1 : mSt} {v : Option Value} (hl : (mArgs args).length ≤ 4) (h : ∀ Q : Option Value → mSt → Prop, Q v st1 → mW (mMC mT d) (0, fun _ => 0) (mAtL P_X1_yardOfClod) (some .int) Q 0 (mEntry args 4) [] st) : mMC mT (d + 1) 30 args st v st1 := mMC_of (q := (yX1_yardOfClod, cX1_yardOfClod, 4, (some .int), 1, 858, 73, P_X1_yardOfClod)) rfl hl (h _ ⟨rfl, rfl⟩)
theorem mI_X2_greatest {d : Nat} {args : List Value} {st st1 : mSt} {v : Option Value} (hl : (mArgs args).length ≤ 7) (h : ∀ Q : Option Value → mSt → Prop, Q v st1 → mW (mMC mT d) (0, fun _ => 0) (mAtL P_X2_greatest) (some .int) Q 0 (mEntry args 7) [] st) : mMC mT (d + 1) 31 args st v st1 := mMC_of (q := (yX2_greatest, cX2_greatest, 7, (some .int), 3, 761, 76, P_X2_greatest)) rfl hl (h _ ⟨rfl, rfl⟩)
theorem mI_X2_look {d : Nat} {args : List Value} {st st1 : mSt} {v : Option Value} (hl : (mArgs args).length ≤ 6) (h : ∀ Q : Option Value → mSt → Prop, Q v st1 → mW (mMC mT d) (0, fun _ => 0) (mAtL P_X2_look) none Q 0 (mEntry args 6) [] st) : mMC mT (d + 1) 32 args st v st1 := mMC_of (q := (yX2_look, cX2_look, 6, none, 2, 765, 76, P_X2_look)) rfl hl (h _ ⟨rfl, rfl⟩)
theorem mI_X2_findChains {d : Nat} {args : List Value} {st st1 : mSt} {v : Option Value} (hl : (mArgs args).length ≤ 5) (h : ∀ Q : Option Value → mSt → Prop, Q v st1 → mW (mMC mT d) (0, fun _ => 0) (mAtL P_X2_findChains) none Q 0 (mEntry args 5) [] st) : mMC mT (d + 1) 33 args st v st1 := mMC_of (q := (yX2_findChains, cX2_findChains, 5, none, 1, 772, 76, P_X2_findChains)) rfl hl (h _ ⟨rfl, rfl⟩)
theorem mI_X2_lengthenBy {d : Nat} {args : List Value} {st st1 : mSt} {v : Option Value} (hl : (mArgs args).length ≤ 5) (h : ∀ Q : Option Value → mSt → Prop, Q v st1 → mW (mMC mT d) (0, fun _ => 0) (mAtL P_X2_lengthenBy) (some .boolean) Q 0 (mEntry args 5) [] st) : mMC mT (d + 1) 34 args st v st1 := mMC_of (q := (yX2_lengthenBy, cX2_lengthenBy, 5, (some .boolean), 2, 780, 76, P_X2_lengthenBy)) rfl hl (h _ ⟨rfl, rfl⟩)
theorem mI_X2_lengthenToSpade {d : Nat} {args : List Value} {st st1 : mSt} {v : Option Value} (hl : (mArgs args).length ≤ 5) (h : ∀ Q : Option Value → mSt → Prop, Q v st1 → mW (mMC mT d) (0, fun _ => 0) (mAtL P_X2_lengthenToSpade) (some .boolean) Q 0 (mEntry args 5) [] st) : mMC mT (d + 1) 35 args st v st1 := mMC_of (q := (yX2_lengthenToSpade, cX2_lengthenToSpade, 5, (some .boolean), 3, 790, 76, P_X2_lengthenToSpade)) rfl hl (h _ ⟨rfl, rfl⟩)
theorem mI_X2_lengthenToDigger {d : Nat} {args : List Value} {st st1 : mSt} {v : Option Value} (hl : (mArgs args).length ≤ 5) (h : ∀ Q : Option Value → mSt → Prop, Q v st1 → mW (mMC mT d) (0, fun _ => 0) (mAtL P_X2_lengthenToDigger) (some .boolean) Q 0 (mEntry args 5) [] st) : mMC mT (d + 1) 36 args st v st1 := mMC_of (q := (yX2_lengthenToDigger, cX2_lengthenToDigger, 5, (some .boolean), 3, 786, 76, P_X2_lengthenToDigger)) rfl hl (h _ ⟨rfl, rfl⟩)
theorem mI_X2_bestLastSpade {d : Nat} {args : List Value} {st st1 : mSt} {v : Option Value} (hl : (mArgs args).length ≤ 4) (h : ∀ Q : Option Value → mSt → Prop, Q v st1 → mW (mMC mT d) (0, fun _ => 0) (mAtL P_X2_bestLastSpade) (some .int) Q 0 (mEntry args 4) [] st) : mMC mT (d + 1) 37 args st v st1 := mMC_of (q := (yX2_bestLastSpade, cX2_bestLastSpade, 4, (some .int), 0, 794, 76, P_X2_bestLastSpade)) rfl hl (h _ ⟨rfl, rfl⟩)
theorem mI_X2_follow {d : Nat} {args : List Value} {st st1 : mSt} {v : Option Value} (hl : (mArgs args).length ≤ 7) (h : ∀ Q : Option Value → mSt → Prop, Q v st1 → mW (mMC mT d) (0, fun _ => 0) (mAtL P_X2_follow) none Q 0 (mEntry args 7) [] st) : mMC mT (d + 1) 38 args st v st1 := mMC_of (q := (yX2_follow, cX2_follow, 7, none, 1, 798, 76, P_X2_follow)) rfl hl (h _ ⟨rfl, rfl⟩)
theorem mI_X3_add {d : Nat} {args : List Value} {st st1 : mSt} {v : Option Value} (hl : (mArgs args).length ≤ 4) (h : ∀ Q : Option Value → mSt → Prop, Q v st1 → mW (mMC mT d) (0, fun _ => 0) (mAtL P_X3_add) (some .boolean) Q 0 (mEntry args 4) [] st) : mMC mT (d + 1) 39 args st v st1 := mMC_of (q := (yX3_add, cX3_add, 4, (some .boolean), 3, 875, 79, P_X3_add)) rfl hl (h _ ⟨rfl, rfl⟩)
theorem mI_X3_leastClods {d : Nat} {args : List Value} {st st1 : mSt} {v : Option Value} (hl : (mArgs args).length ≤ 4) (h : ∀ Q : Option Value → mSt → Prop, Q v st1 → mW (mMC mT d) (0, fun _ => 0) (mAtL P_X3_leastClods) (some .int) Q 0 (mEntry args 4) [] st) : mMC mT (d + 1) 40 args st v st1 := mMC_of (q := (yX3_leastClods, cX3_leastClods, 4, (some .int), 0, 884, 79, P_X3_leastClods)) rfl hl (h _ ⟨rfl, rfl⟩)
theorem mI_X3_neededWithin {d : Nat} {args : List Value} {st st1 : mSt} {v : Option Value} (hl : (mArgs args).length ≤ 5) (h : ∀ Q : Option Value → mSt → Prop, Q v st1 → mW (mMC mT d) (0, fun _ => 0) (mAtL P_X3_neededWithin) (some .int) Q 0 (mEntry args 5) [] st) : mMC mT (d + 1) 41 args st v st1 := mMC_of (q := (yX3_neededWithin, cX3_neededWithin, 5, (some .int), 2, 889, 79, P_X3_neededWithin)) rfl hl (h _ ⟨rfl, rfl⟩)
theorem mI_X4_hold {d : Nat} {args : List Value} {st st1 : mSt} {v : Option Value} (hl : (mArgs args).length ≤ 11) (h : ∀ Q : Option Value → mSt → Prop, Q v st1 → mW (mMC mT d) (0, fun _ => 0) (mAtL P_X4_hold) none Q 0 (mEntry args 11) [] st) : mMC mT (d + 1) 42 args st v st1 := mMC_of (q := (yX4_hold, cX4_hold, 11, none, 5, 833, 78, P_X4_hold)) rfl hl (h _ ⟨rfl, rfl⟩)
theorem mI_X4_firstBeatWith {d : Nat} {args : List Value} {st st1 : mSt} {v : Option Value} (hl : (mArgs args).length ≤ 6) (h : ∀ Q : Option Value → mSt → Prop, Q v st1 → mW (mMC mT d) (0, fun _ => 0) (mAtL P_X4_firstBeatWith) (some .int) Q 0 (mEntry args 6) [] st) : mMC mT (d + 1) 43 args st v st1 := mMC_of (q := (yX4_firstBeatWith, cX4_firstBeatWith, 6, (some .int), 1, 845, 78, P_X4_firstBeatWith)) rfl hl (h _ ⟨rfl, rfl⟩)
theorem mI_X4_dugBy {d : Nat} {args : List Value} {st st1 : mSt} {v : Option Value} (hl : (mArgs args).length ≤ 2) (h : ∀ Q : Option Value → mSt → Prop, Q v st1 → mW (mMC mT d) (0, fun _ => 0) (mAtL P_X4_dugBy) (some .int) Q 0 (mEntry args 2) [] st) : mMC mT (d + 1) 44 args st v st1 := mMC_of (q := (yX4_dugBy, cX4_dugBy, 2, (some .int), 1, 850, 78, P_X4_dugBy)) rfl hl (h _ ⟨rfl, rfl⟩)
theorem mI_X5_reset {d : Nat} {args : List Value} {st st1 : mSt} {v : Option Value} (hl : (mArgs args).length ≤ 1) (h : ∀ Q : Option Value → mSt → Prop, Q v st1 → mW (mMC mT d) (0, fun _ => 0) (mAtL P_X5_reset) none Q 0 (mEntry args 1) [] st) : mMC mT (d + 1) 45 args st v st1 := mMC_of (q := (yX5_reset, cX5_reset, 1, none, 0, 597, 74, P_X5_reset)) rfl hl (h _ ⟨rfl, rfl⟩)
theorem mI_X5_copyFrom {d : Nat} {args : List Value} {st st1 : mSt} {v : Option Value} (hl : (mArgs args).length ≤ 2) (h : ∀ Q : Option Value → mSt → Prop, Q v st1 → mW (mMC mT d) (0, fun _ => 0) (mAtL P_X5_copyFrom) none Q 0 (mEntry args 2) [] st) : mMC mT (d + 1) 46 args st v st1 := mMC_of (q := (yX5_copyFrom, cX5_copyFrom, 2, none, 1, 984, 74, P_X5_copyFrom)) rfl hl (h _ ⟨rfl, rfl⟩)
theorem mI_X5_allows {d : Nat} {args : List Value} {st st1 : mSt} {v : Option Value} (hl : (mArgs args).length ≤ 4) (h : ∀ Q : Option Value → mSt → Prop, Q v st1 → mW (mMC mT d) (0, fun _ => 0) (mAtL P_X5_allows) (some .boolean) Q 0 (mEntry args 4) [] st) : mMC mT (d + 1) 47 args st v st1 := mMC_of (q := (yX5_allows, cX5_allows, 4, (some .boolean), 3, 642, 74, P_X5_allows)) rfl hl (h _ ⟨rfl, rfl⟩)
theorem mI_X5_canThrow {d : Nat} {args : List Value} {st st1 : mSt} {v : Option Value} (hl : (mArgs args).length ≤ 4) (h : ∀ Q : Option Value → mSt → Prop, Q v st1 → mW (mMC mT d) (0, fun _ => 0) (mAtL P_X5_canThrow) (some .boolean) Q 0 (mEntry args 4) [] st) : mMC mT (d + 1) 48 args st v st1 := mMC_of (q := (yX5_canThrow, cX5_canThrow, 4, (some .boolean), 3, 657, 74, P_X5_canThrow)) rfl hl (h _ ⟨rfl, rfl⟩)
theorem mI_X5_earthOf {d : Nat} {args : List Value} {st st1 : mSt} {v : Option Value} (hl : (mArgs args).length ≤ 5) (h : ∀ Q : Option Value → mSt → Prop, Q v st1 → mW (mMC mT d) (0, fun _ => 0) (mAtL P_X5_earthOf) (some .int) Q 0 (mEntry args 5) [] st) : mMC mT (d + 1) 49 args st v st1 := mMC_of (q := (yX5_earthOf, cX5_earthOf, 5, (some .int), 3, 662, 74, P_X5_earthOf)) rfl hl (h _ ⟨rfl, rfl⟩)
theorem mI_X5_noteThrow {d : Nat} {args : List Value} {st st1 : mSt} {v : Option Value} (hl : (mArgs args).length ≤ 3) (h : ∀ Q : Option Value → mSt → Prop, Q v st1 → mW (mMC mT d) (0, fun _ => 0) (mAtL P_X5_noteThrow) none Q 0 (mEntry args 3) [] st) : mMC mT (d + 1) 50 args st v st1 := mMC_of (q := (yX5_noteThrow, cX5_noteThrow, 3, none, 2, 677, 74, P_X5_noteThrow)) rfl hl (h _ ⟨rfl, rfl⟩)
theorem mI_X5_dig {d : Nat} {args : List Value} {st st1 : mSt} {v : Option Value} (hl : (mArgs args).length ≤ 5) (h : ∀ Q : Option Value → mSt → Prop, Q v st1 → mW (mMC mT d) (0, fun _ => 0) (mAtL P_X5_dig) none Q 0 (mEntry args 5) [] st) : mMC mT (d + 1) 51 args st v st1 := mMC_of (q := (yX5_dig, cX5_dig, 5, none, 2, 682, 74, P_X5_dig)) rfl hl (h _ ⟨rfl, rfl⟩)
theorem mI_X5_endRound {d : Nat} {args : List Value} {st st1 : mSt} {v : Option Value} (hl : (mArgs args).length ≤ 4) (h : ∀ Q : Option Value → mSt → Prop, Q v st1 → mW (mMC mT d) (0, fun _ => 0) (mAtL P_X5_endRound) (some .int) Q 0 (mEntry args 4) [] st) : mMC mT (d + 1) 52 args st v st1 := mMC_of (q := (yX5_endRound, cX5_endRound, 4, (some .int), 1, 693, 74, P_X5_endRound)) rfl hl (h _ ⟨rfl, rfl⟩)
theorem mI_X6_part {d : Nat} {args : List Value} {st st1 : mSt} {v : Option Value} (hl : (mArgs args).length ≤ 7) (h : ∀ Q : Option Value → mSt → Prop, Q v st1 → mW (mMC mT d) (0, fun _ => 0) (mAtL P_X6_part) none Q 0 (mEntry args 7) [] st) : mMC mT (d + 1) 53 args st v st1 := mMC_of (q := (yX6_part, cX6_part, 7, none, 3, 806, 77, P_X6_part)) rfl hl (h _ ⟨rfl, rfl⟩)
theorem mI_X6_partRest {d : Nat} {args : List Value} {st st1 : mSt} {v : Option Value} (hl : (mArgs args).length ≤ 5) (h : ∀ Q : Option Value → mSt → Prop, Q v st1 → mW (mMC mT d) (0, fun _ => 0) (mAtL P_X6_partRest) none Q 0 (mEntry args 5) [] st) : mMC mT (d + 1) 54 args st v st1 := mMC_of (q := (yX6_partRest, cX6_partRest, 5, none, 2, 821, 77, P_X6_partRest)) rfl hl (h _ ⟨rfl, rfl⟩)
theorem mI_X6_offer {d : Nat} {args : List Value} {st st1 : mSt} {v : Option Value} (hl : (mArgs args).length ≤ 5) (h : ∀ Q : Option Value → mSt → Prop, Q v st1 → mW (mMC mT d) (0, fun _ => 0) (mAtL P_X6_offer) none Q 0 (mEntry args 5) [] st) : mMC mT (d + 1) 55 args st v st1 := mMC_of (q := (yX6_offer, cX6_offer, 5, none, 3, 817, 77, P_X6_offer)) rfl hl (h _ ⟨rfl, rfl⟩)
theorem mI_X6_weigh {d : Nat} {args : List Value} {st st1 : mSt} {v : Option Value} (hl : (mArgs args).length ≤ 6) (h : ∀ Q : Option Value → mSt → Prop, Q v st1 → mW (mMC mT d) (0, fun _ => 0) (mAtL P_X6_weigh) (some .int) Q 0 (mEntry args 6) [] st) : mMC mT (d + 1) 56 args st v st1 := mMC_of (q := (yX6_weigh, cX6_weigh, 6, (some .int), 3, 809, 77, P_X6_weigh)) rfl hl (h _ ⟨rfl, rfl⟩)
theorem mI_X6_ringOf {d : Nat} {args : List Value} {st st1 : mSt} {v : Option Value} (hl : (mArgs args).length ≤ 2) (h : ∀ Q : Option Value → mSt → Prop, Q v st1 → mW (mMC mT d) (0, fun _ => 0) (mAtL P_X6_ringOf) (some .int) Q 0 (mEntry args 2) [] st) : mMC mT (d + 1) 57 args st v st1 := mMC_of (q := (yX6_ringOf, cX6_ringOf, 2, (some .int), 1, 825, 77, P_X6_ringOf)) rfl hl (h _ ⟨rfl, rfl⟩)
theorem mI_X7_hasRoomFor {d : Nat} {args : List Value} {st st1 : mSt} {v : Option Value} (hl : (mArgs args).length ≤ 2) (h : ∀ Q : Option Value → mSt → Prop, Q v st1 → mW (mMC mT d) (0, fun _ => 0) (mAtL P_X7_hasRoomFor) (some .boolean) Q 0 (mEntry args 2) [] st) : mMC mT (d + 1) 58 args st v st1 := mMC_of (q := (yX7_hasRoomFor, cX7_hasRoomFor, 2, (some .boolean), 1, 427, 72, P_X7_hasRoomFor)) rfl hl (h _ ⟨rfl, rfl⟩)
theorem mI_X7_append {d : Nat} {args : List Value} {st st1 : mSt} {v : Option Value} (hl : (mArgs args).length ≤ 5) (h : ∀ Q : Option Value → mSt → Prop, Q v st1 → mW (mMC mT d) (0, fun _ => 0) (mAtL P_X7_append) none Q 0 (mEntry args 5) [] st) : mMC mT (d + 1) 59 args st v st1 := mMC_of (q := (yX7_append, cX7_append, 5, none, 2, 431, 72, P_X7_append)) rfl hl (h _ ⟨rfl, rfl⟩)
theorem mI_X7_wipe {d : Nat} {args : List Value} {st st1 : mSt} {v : Option Value} (hl : (mArgs args).length ≤ 2) (h : ∀ Q : Option Value → mSt → Prop, Q v st1 → mW (mMC mT d) (0, fun _ => 0) (mAtL P_X7_wipe) (some .int) Q 0 (mEntry args 2) [] st) : mMC mT (d + 1) 60 args st v st1 := mMC_of (q := (yX7_wipe, cX7_wipe, 2, (some .int), 0, 442, 72, P_X7_wipe)) rfl hl (h _ ⟨rfl, rfl⟩)
theorem mI_X7_readInto {d : Nat} {args : List Value} {st st1 : mSt} {v : Option Value} (hl : (mArgs args).length ≤ 3) (h : ∀ Q : Option Value → mSt → Prop, Q v st1 → mW (mMC mT d) (0, fun _ => 0) (mAtL P_X7_readInto) (some .int) Q 0 (mEntry args 3) [] st) : mMC mT (d + 1) 61 args st v st1 := mMC_of (q := (yX7_readInto, cX7_readInto, 3, (some .int), 1, 450, 72, P_X7_readInto)) rfl hl (h _ ⟨rfl, rfl⟩)
theorem mI_X7_readItem {d : Nat} {args : List Value} {st st1 : mSt} {v : Option Value} (hl : (mArgs args).length ≤ 2) (h : ∀ Q : Option Value → mSt → Prop, Q v st1 → mW (mMC mT d) (0, fun _ => 0) (mAtL P_X7_readItem) none Q 0 (mEntry args 2) [] st) : mMC mT (d + 1) 62 args st v st1 := mMC_of (q := (yX7_readItem, cX7_readItem, 2, none, 1, 548, 72, P_X7_readItem)) rfl hl (h _ ⟨rfl, rfl⟩)
theorem mI_X7_readDigger {d : Nat} {args : List Value} {st st1 : mSt} {v : Option Value} (hl : (mArgs args).length ≤ 5) (h : ∀ Q : Option Value → mSt → Prop, Q v st1 → mW (mMC mT d) (0, fun _ => 0) (mAtL P_X7_readDigger) none Q 0 (mEntry args 5) [] st) : mMC mT (d + 1) 63 args st v st1 := mMC_of (q := (yX7_readDigger, cX7_readDigger, 5, none, 1, 552, 72, P_X7_readDigger)) rfl hl (h _ ⟨rfl, rfl⟩)
theorem mI_X7_readSpade {d : Nat} {args : List Value} {st st1 : mSt} {v : Option Value} (hl : (mArgs args).length ≤ 4) (h : ∀ Q : Option Value → mSt → Prop, Q v st1 → mW (mMC mT d) (0, fun _ => 0) (mAtL P_X7_readSpade) none Q 0 (mEntry args 4) [] st) : mMC mT (d + 1) 64 args st v st1 := mMC_of (q := (yX7_readSpade, cX7_readSpade, 4, none, 1, 581, 72, P_X7_readSpade)) rfl hl (h _ ⟨rfl, rfl⟩)
theorem mI_X7_readYard {d : Nat} {args : List Value} {st st1 : mSt} {v : Option Value} (hl : (mArgs args).length ≤ 4) (h : ∀ Q : Option Value → mSt → Prop, Q v st1 → mW (mMC mT d) (0, fun _ => 0) (mAtL P_X7_readYard) none Q 0 (mEntry args 4) [] st) : mMC mT (d + 1) 65 args st v st1 := mMC_of (q := (yX7_readYard, cX7_readYard, 4, none, 1, 589, 72, P_X7_readYard)) rfl hl (h _ ⟨rfl, rfl⟩)
theorem mI_X7_takeWord {d : Nat} {args : List Value} {st st1 : mSt} {v : Option Value} (hl : (mArgs args).length ≤ 2) (h : ∀ Q : Option Value → mSt → Prop, Q v st1 → mW (mMC mT d) (0, fun _ => 0) (mAtL P_X7_takeWord) none Q 0 (mEntry args 2) [] st) : mMC mT (d + 1) 66 args st v st1 := mMC_of (q := (yX7_takeWord, cX7_takeWord, 2, none, 1, 556, 72, P_X7_takeWord)) rfl hl (h _ ⟨rfl, rfl⟩)
theorem mI_X7_takeNumber {d : Nat} {args : List Value} {st st1 : mSt} {v : Option Value} (hl : (mArgs args).length ≤ 3) (h : ∀ Q : Option Value → mSt → Prop, Q v st1 → mW (mMC mT d) (0, fun _ => 0) (mAtL P_X7_takeNumber) (some .int) Q 0 (mEntry args 3) [] st) : mMC mT (d + 1) 67 args st v st1 := mMC_of (q := (yX7_takeNumber, cX7_takeNumber, 3, (some .int), 1, 560, 72, P_X7_takeNumber)) rfl hl (h _ ⟨rfl, rfl⟩)
theorem mI_X7_takeSemicolon {d : Nat} {args : List Value} {st st1 : mSt} {v : Option Value} (hl : (mArgs args).length ≤ 1) (h : ∀ Q : Option Value → mSt → Prop, Q v st1 → mW (mMC mT d) (0, fun _ => 0) (mAtL P_X7_takeSemicolon) none Q 0 (mEntry args 1) [] st) : mMC mT (d + 1) 68 args st v st1 := mMC_of (q := (yX7_takeSemicolon, cX7_takeSemicolon, 1, none, 0, 569, 72, P_X7_takeSemicolon)) rfl hl (h _ ⟨rfl, rfl⟩)
theorem mI_X7_takes {d : Nat} {args : List Value} {st st1 : mSt} {v : Option Value} (hl : (mArgs args).length ≤ 2) (h : ∀ Q : Option Value → mSt → Prop, Q v st1 → mW (mMC mT d) (0, fun _ => 0) (mAtL P_X7_takes) (some .boolean) Q 0 (mEntry args 2) [] st) : mMC mT (d + 1) 69 args st v st1 := mMC_of (q := (yX7_takes, cX7_takes, 2, (some .boolean), 1, 565, 72, P_X7_takes)) rfl hl (h _ ⟨rfl, rfl⟩)
theorem mI_X7_cutIntoTokens {d : Nat} {args : List Value} {st st1 : mSt} {v : Option Value} (hl : (mArgs args).length ≤ 4) (h : ∀ Q : Option Value → mSt → Prop, Q v st1 → mW (mMC mT d) (0, fun _ => 0) (mAtL P_X7_cutIntoTokens) none Q 0 (mEntry args 4) [] st) : mMC mT (d + 1) 70 args st v st1 := mMC_of (q := (yX7_cutIntoTokens, cX7_cutIntoTokens, 4, none, 0, 454, 72, P_X7_cutIntoTokens)) rfl hl (h _ ⟨rfl, rfl⟩)
theorem mI_X7_behindBlanks {d : Nat} {args : List Value} {st st1 : mSt} {v : Option Value} (hl : (mArgs args).length ≤ 3) (h : ∀ Q : Option Value → mSt → Prop, Q v st1 → mW (mMC mT d) (0, fun _ => 0) (mAtL P_X7_behindBlanks) (some .int) Q 0 (mEntry args 3) [] st) : mMC mT (d + 1) 71 args st v st1 := mMC_of (q := (yX7_behindBlanks, cX7_behindBlanks, 3, (some .int), 1, 458, 72, P_X7_behindBlanks)) rfl hl (h _ ⟨rfl, rfl⟩)
theorem mI_X7_endOfToken {d : Nat} {args : List Value} {st st1 : mSt} {v : Option Value} (hl : (mArgs args).length ≤ 3) (h : ∀ Q : Option Value → mSt → Prop, Q v st1 → mW (mMC mT d) (0, fun _ => 0) (mAtL P_X7_endOfToken) (some .int) Q 0 (mEntry args 3) [] st) : mMC mT (d + 1) 72 args st v st1 := mMC_of (q := (yX7_endOfToken, cX7_endOfToken, 3, (some .int), 1, 465, 72, P_X7_endOfToken)) rfl hl (h _ ⟨rfl, rfl⟩)
theorem mI_X7_tokenOf {d : Nat} {args : List Value} {st st1 : mSt} {v : Option Value} (hl : (mArgs args).length ≤ 4) (h : ∀ Q : Option Value → mSt → Prop, Q v st1 → mW (mMC mT d) (0, fun _ => 0) (mAtL P_X7_tokenOf) (some .int) Q 0 (mEntry args 4) [] st) : mMC mT (d + 1) 73 args st v st1 := mMC_of (q := (yX7_tokenOf, cX7_tokenOf, 4, (some .int), 2, 475, 72, P_X7_tokenOf)) rfl hl (h _ ⟨rfl, rfl⟩)
theorem mI_X7_numberOf {d : Nat} {args : List Value} {st st1 : mSt} {v : Option Value} (hl : (mArgs args).length ≤ 5) (h : ∀ Q : Option Value → mSt → Prop, Q v st1 → mW (mMC mT d) (0, fun _ => 0) (mAtL P_X7_numberOf) (some .int) Q 0 (mEntry args 5) [] st) : mMC mT (d + 1) 74 args st v st1 := mMC_of (q := (yX7_numberOf, cX7_numberOf, 5, (some .int), 2, 479, 72, P_X7_numberOf)) rfl hl (h _ ⟨rfl, rfl⟩)
theorem mI_X7_wordOf {d : Nat} {args : List Value} {st st1 : mSt} {v : Option Value} (hl : (mArgs args).length ≤ 3) (h : ∀ Q : Option Value → mSt → Prop, Q v st1 → mW (mMC mT d) (0, fun _ => 0) (mAtL P_X7_wordOf) (some .int) Q 0 (mEntry args 3) [] st) : mMC mT (d + 1) 75 args st v st1 := mMC_of (q := (yX7_wordOf, cX7_wordOf, 3, (some .int), 2, 483, 72, P_X7_wordOf)) rfl hl (h _ ⟨rfl, rfl⟩)
theorem mI_X7_isWord {d : Nat} {args : List Value} {st st1 : mSt} {v : Option Value} (hl : (mArgs args).length ≤ 5) (h : ∀ Q : Option Value → mSt → Prop, Q v st1 → mW (mMC mT d) (0, fun _ => 0) (mAtL P_X7_isWord) (some .boolean) Q 0 (mEntry args 5) [] st) : mMC mT (d + 1) 76 args st v st1 := mMC_of (q := (yX7_isWord, cX7_isWord, 5, (some .boolean), 3, 488, 72, P_X7_isWord)) rfl hl (h _ ⟨rfl, rfl⟩)
theorem mI_X7_isLetter {d : Nat} {args : List Value} {st st1 : mSt} {v : Option Value} (hl : (mArgs args).length ≤ 1) (h : ∀ Q : Option Value → mSt → Prop, Q v st1 → mW (mMC mT d) (0, fun _ => 0) (mAtL P_X7_isLetter) (some .boolean) Q 0 (mEntry args 1) [] st) : mMC mT (d + 1) 77 args st v st1 := mMC_of (q := (yX7_isLetter, cX7_isLetter, 1, (some .boolean), 1, 468, 72, P_X7_isLetter)) rfl hl (h _ ⟨rfl, rfl⟩)
theorem mI_X7_isDigit {d : Nat} {args : List Value} {st st1 : mSt} {v : Option Value} (hl : (mArgs args).length ≤ 1) (h : ∀ Q : Option Value → mSt → Prop, Q v st1 → mW (mMC mT d) (0, fun _ => 0) (mAtL P_X7_isDigit) (some .boolean) Q 0 (mEntry args 1) [] st) : mMC mT (d + 1) 78 args st v st1 := mMC_of (q := (yX7_isDigit, cX7_isDigit, 1, (some .boolean), 1, 471, 72, P_X7_isDigit)) rfl hl (h _ ⟨rfl, rfl⟩)
theorem mI_X8_forget {d : Nat} {args : List Value} {st st1 : mSt} {v : Option Value} (hl : (mArgs args).length ≤ 1) (h : ∀ Q : Option Value → mSt → Prop, Q v st1 → mW (mMC mT d) (0, fun _ => 0) (mAtL P_X8_forget) none Q 0 (mEntry args 1) [] st) : mMC mT (d + 1) 79 args st v st1 := mMC_of (q := (yX8_forget, cX8_forget, 1, none, 0, 604, 80, P_X8_forget)) rfl hl (h _ ⟨rfl, rfl⟩)
theorem mI_X8_add {d : Nat} {args : List Value} {st st1 : mSt} {v : Option Value} (hl : (mArgs args).length ≤ 4) (h : ∀ Q : Option Value → mSt → Prop, Q v st1 → mW (mMC mT d) (0, fun _ => 0) (mAtL P_X8_add) (some .boolean) Q 0 (mEntry args 4) [] st) : mMC mT (d + 1) 80 args st v st1 := mMC_of (q := (yX8_add, cX8_add, 4, (some .boolean), 3, 908, 80, P_X8_add)) rfl hl (h _ ⟨rfl, rfl⟩)
theorem mI_X8_pairOf {d : Nat} {args : List Value} {st st1 : mSt} {v : Option Value} (hl : (mArgs args).length ≤ 2) (h : ∀ Q : Option Value → mSt → Prop, Q v st1 → mW (mMC mT d) (0, fun _ => 0) (mAtL P_X8_pairOf) (some .long) Q 0 (mEntry args 2) [] st) : mMC mT (d + 1) 81 args st v st1 := mMC_of (q := (yX8_pairOf, cX8_pairOf, 2, (some .long), 1, 921, 80, P_X8_pairOf)) rfl hl (h _ ⟨rfl, rfl⟩)
theorem mI_X8_whoThrewTwice {d : Nat} {args : List Value} {st st1 : mSt} {v : Option Value} (hl : (mArgs args).length ≤ 5) (h : ∀ Q : Option Value → mSt → Prop, Q v st1 → mW (mMC mT d) (0, fun _ => 0) (mAtL P_X8_whoThrewTwice) (some .int) Q 0 (mEntry args 5) [] st) : mMC mT (d + 1) 82 args st v st1 := mMC_of (q := (yX8_whoThrewTwice, cX8_whoThrewTwice, 5, (some .int), 0, 917, 80, P_X8_whoThrewTwice)) rfl hl (h _ ⟨rfl, rfl⟩)
theorem mI_X8_falseRounds {d : Nat} {args : List Value} {st st1 : mSt} {v : Option Value} (hl : (mArgs args).length ≤ 3) (h : ∀ Q : Option Value → mSt → Prop, Q v st1 → mW (mMC mT d) (0, fun _ => 0) (mAtL P_X8_falseRounds) (some .int) Q 0 (mEntry args 3) [] st) : mMC mT (d + 1) 83 args st v st1 := mMC_of (q := (yX8_falseRounds, cX8_falseRounds, 3, (some .int), 0, 926, 80, P_X8_falseRounds)) rfl hl (h _ ⟨rfl, rfl⟩)
theorem mI_X8_isFalse {d : Nat} {args : List Value} {st st1 : mSt} {v : Option Value} (hl : (mArgs args).length ≤ 7) (h : ∀ Q : Option Value → mSt → Prop, Q v st1 → mW (mMC mT d) (0, fun _ => 0) (mAtL P_X8_isFalse) (some .boolean) Q 0 (mEntry args 7) [] st) : mMC mT (d + 1) 84 args st v st1 := mMC_of (q := (yX8_isFalse, cX8_isFalse, 7, (some .boolean), 1, 930, 80, P_X8_isFalse)) rfl hl (h _ ⟨rfl, rfl⟩)
theorem mI_X9_type {d : Nat} {args : List Value} {st st1 : mSt} {v : Option Value} (hl : (mArgs args).length ≤ 4) (h : ∀ Q : Option Value → mSt → Prop, Q v st1 → mW (mMC mT d) (0, fun _ => 0) (mAtL P_X9_type) (some .int) Q 0 (mEntry args 4) [] st) : mMC mT (d + 1) 85 args st v st1 := mMC_of (q := (yX9_type, cX9_type, 4, (some .int), 2, 420, 71, P_X9_type)) rfl hl (h _ ⟨rfl, rfl⟩)
theorem mI_X9_clear {d : Nat} {args : List Value} {st st1 : mSt} {v : Option Value} (hl : (mArgs args).length ≤ 1) (h : ∀ Q : Option Value → mSt → Prop, Q v st1 → mW (mMC mT d) (0, fun _ => 0) (mAtL P_X9_clear) (some .int) Q 0 (mEntry args 1) [] st) : mMC mT (d + 1) 86 args st v st1 := mMC_of (q := (yX9_clear, cX9_clear, 1, (some .int), 0, 438, 71, P_X9_clear)) rfl hl (h _ ⟨rfl, rfl⟩)
theorem mI_X9_gang {d : Nat} {args : List Value} {st st1 : mSt} {v : Option Value} (hl : (mArgs args).length ≤ 3) (h : ∀ Q : Option Value → mSt → Prop, Q v st1 → mW (mMC mT d) (0, fun _ => 0) (mAtL P_X9_gang) (some .int) Q 0 (mEntry args 3) [] st) : mMC mT (d + 1) 87 args st v st1 := mMC_of (q := (yX9_gang, cX9_gang, 3, (some .int), 0, 446, 71, P_X9_gang)) rfl hl (h _ ⟨rfl, rfl⟩)
theorem mI_X9_digger {d : Nat} {args : List Value} {st st1 : mSt} {v : Option Value} (hl : (mArgs args).length ≤ 3) (h : ∀ Q : Option Value → mSt → Prop, Q v st1 → mW (mMC mT d) (0, fun _ => 0) (mAtL P_X9_digger) (some .int) Q 0 (mEntry args 3) [] st) : mMC mT (d + 1) 88 args st v st1 := mMC_of (q := (yX9_digger, cX9_digger, 3, (some .int), 2, 609, 71, P_X9_digger)) rfl hl (h _ ⟨rfl, rfl⟩)
theorem mI_X9_spade {d : Nat} {args : List Value} {st st1 : mSt} {v : Option Value} (hl : (mArgs args).length ≤ 3) (h : ∀ Q : Option Value → mSt → Prop, Q v st1 → mW (mMC mT d) (0, fun _ => 0) (mAtL P_X9_spade) (some .int) Q 0 (mEntry args 3) [] st) : mMC mT (d + 1) 89 args st v st1 := mMC_of (q := (yX9_spade, cX9_spade, 3, (some .int), 2, 618, 71, P_X9_spade)) rfl hl (h _ ⟨rfl, rfl⟩)
theorem mI_X9_yard {d : Nat} {args : List Value} {st st1 : mSt} {v : Option Value} (hl : (mArgs args).length ≤ 3) (h : ∀ Q : Option Value → mSt → Prop, Q v st1 → mW (mMC mT d) (0, fun _ => 0) (mAtL P_X9_yard) (some .int) Q 0 (mEntry args 3) [] st) : mMC mT (d + 1) 90 args st v st1 := mMC_of (q := (yX9_yard, cX9_yard, 3, (some .int), 2, 630, 71, P_X9_yard)) rfl hl (h _ ⟨rfl, rfl⟩)
theorem mI_X9_may {d : Nat} {args : List Value} {st st1 : mSt} {v : Option Value} (hl : (mArgs args).length ≤ 3) (h : ∀ Q : Option Value → mSt → Prop, Q v st1 → mW (mMC mT d) (0, fun _ => 0) (mAtL P_X9_may) (some .int) Q 0 (mEntry args 3) [] st) : mMC mT (d + 1) 91 args st v st1 := mMC_of (q := (yX9_may, cX9_may, 3, (some .int), 2, 638, 71, P_X9_may)) rfl hl (h _ ⟨rfl, rfl⟩)
theorem mI_X9_throwWith {d : Nat} {args : List Value} {st st1 : mSt} {v : Option Value} (hl : (mArgs args).length ≤ 4) (h : ∀ Q : Option Value → mSt → Prop, Q v st1 → mW (mMC mT d) (0, fun _ => 0) (mAtL P_X9_throwWith) (some .int) Q 0 (mEntry args 4) [] st) : mMC mT (d + 1) 92 args st v st1 := mMC_of (q := (yX9_throwWith, cX9_throwWith, 4, (some .int), 2, 653, 71, P_X9_throwWith)) rfl hl (h _ ⟨rfl, rfl⟩)
theorem mI_X9_ends {d : Nat} {args : List Value} {st st1 : mSt} {v : Option Value} (hl : (mArgs args).length ≤ 1) (h : ∀ Q : Option Value → mSt → Prop, Q v st1 → mW (mMC mT d) (0, fun _ => 0) (mAtL P_X9_ends) (some .int) Q 0 (mEntry args 1) [] st) : mMC mT (d + 1) 93 args st v st1 := mMC_of (q := (yX9_ends, cX9_ends, 1, (some .int), 0, 689, 71, P_X9_ends)) rfl hl (h _ ⟨rfl, rfl⟩)
theorem mI_X9_breaks {d : Nat} {args : List Value} {st st1 : mSt} {v : Option Value} (hl : (mArgs args).length ≤ 2) (h : ∀ Q : Option Value → mSt → Prop, Q v st1 → mW (mMC mT d) (0, fun _ => 0) (mAtL P_X9_breaks) (some .int) Q 0 (mEntry args 2) [] st) : mMC mT (d + 1) 94 args st v st1 := mMC_of (q := (yX9_breaks, cX9_breaks, 2, (some .int), 1, 697, 71, P_X9_breaks)) rfl hl (h _ ⟨rfl, rfl⟩)
theorem mI_X9_now {d : Nat} {args : List Value} {st st1 : mSt} {v : Option Value} (hl : (mArgs args).length ≤ 2) (h : ∀ Q : Option Value → mSt → Prop, Q v st1 → mW (mMC mT d) (0, fun _ => 0) (mAtL P_X9_now) (some .int) Q 0 (mEntry args 2) [] st) : mMC mT (d + 1) 95 args st v st1 := mMC_of (q := (yX9_now, cX9_now, 2, (some .int), 1, 701, 71, P_X9_now)) rfl hl (h _ ⟨rfl, rfl⟩)
theorem mI_X9_anew {d : Nat} {args : List Value} {st st1 : mSt} {v : Option Value} (hl : (mArgs args).length ≤ 2) (h : ∀ Q : Option Value → mSt → Prop, Q v st1 → mW (mMC mT d) (0, fun _ => 0) (mAtL P_X9_anew) (some .int) Q 0 (mEntry args 2) [] st) : mMC mT (d + 1) 96 args st v st1 := mMC_of (q := (yX9_anew, cX9_anew, 2, (some .int), 0, 705, 71, P_X9_anew)) rfl hl (h _ ⟨rfl, rfl⟩)
theorem mI_X9_longest {d : Nat} {args : List Value} {st st1 : mSt} {v : Option Value} (hl : (mArgs args).length ≤ 1) (h : ∀ Q : Option Value → mSt → Prop, Q v st1 → mW (mMC mT d) (0, fun _ => 0) (mAtL P_X9_longest) (some .int) Q 0 (mEntry args 1) [] st) : mMC mT (d + 1) 97 args st v st1 := mMC_of (q := (yX9_longest, cX9_longest, 1, (some .int), 0, 709, 71, P_X9_longest)) rfl hl (h _ ⟨rfl, rfl⟩)
theorem mI_X9_begins {d : Nat} {args : List Value} {st st1 : mSt} {v : Option Value} (hl : (mArgs args).length ≤ 2) (h : ∀ Q : Option Value → mSt → Prop, Q v st1 → mW (mMC mT d) (0, fun _ => 0) (mAtL P_X9_begins) (some .int) Q 0 (mEntry args 2) [] st) : mMC mT (d + 1) 98 args st v st1 := mMC_of (q := (yX9_begins, cX9_begins, 2, (some .int), 1, 753, 71, P_X9_begins)) rfl hl (h _ ⟨rfl, rfl⟩)
theorem mI_X9_most {d : Nat} {args : List Value} {st st1 : mSt} {v : Option Value} (hl : (mArgs args).length ≤ 2) (h : ∀ Q : Option Value → mSt → Prop, Q v st1 → mW (mMC mT d) (0, fun _ => 0) (mAtL P_X9_most) (some .int) Q 0 (mEntry args 2) [] st) : mMC mT (d + 1) 99 args st v st1 := mMC_of (q := (yX9_most, cX9_most, 2, (some .int), 1, 757, 71, P_X9_most)) rfl hl (h _ ⟨rfl, rfl⟩)
theorem mI_X9_rings {d : Nat} {args : List Value} {st st1 : mSt} {v : Option Value} (hl : (mArgs args).length ≤ 4) (h : ∀ Q : Option Value → mSt → Prop, Q v st1 → mW (mMC mT d) (0, fun _ => 0) (mAtL P_X9_rings) (some .int) Q 0 (mEntry args 4) [] st) : mMC mT (d + 1) 100 args st v st1 := mMC_of (q := (yX9_rings, cX9_rings, 4, (some .int), 3, 802, 71, P_X9_rings)) rfl hl (h _ ⟨rfl, rfl⟩)
theorem mI_X9_meeting {d : Nat} {args : List Value} {st st1 : mSt} {v : Option Value} (hl : (mArgs args).length ≤ 7) (h : ∀ Q : Option Value → mSt → Prop, Q v st1 → mW (mMC mT d) (0, fun _ => 0) (mAtL P_X9_meeting) (some .int) Q 0 (mEntry args 7) [] st) : mMC mT (d + 1) 101 args st v st1 := mMC_of (q := (yX9_meeting, cX9_meeting, 7, (some .int), 5, 829, 71, P_X9_meeting)) rfl hl (h _ ⟨rfl, rfl⟩)
theorem mI_X9_songs {d : Nat} {args : List Value} {st st1 : mSt} {v : Option Value} (hl : (mArgs args).length ≤ 8) (h : ∀ Q : Option Value → mSt → Prop, Q v st1 → mW (mMC mT d) (0, fun _ => 0) (mAtL P_X9_songs) (some .int) Q 0 (mEntry args 8) [] st) : mMC mT (d + 1) 102 args st v st1 := mMC_of (q := (yX9_songs, cX9_songs, 8, (some .int), 4, 862, 71, P_X9_songs)) rfl hl (h _ ⟨rfl, rfl⟩)
theorem mI_X9_hole {d : Nat} {args : List Value} {st st1 : mSt} {v : Option Value} (hl : (mArgs args).length ≤ 4) (h : ∀ Q : Option Value → mSt → Prop, Q v st1 → mW (mMC mT d) (0, fun _ => 0) (mAtL P_X9_hole) (some .int) Q 0 (mEntry args 4) [] st) : mMC mT (d + 1) 103 args st v st1 := mMC_of (q := (yX9_hole, cX9_hole, 4, (some .int), 3, 871, 71, P_X9_hole)) rfl hl (h _ ⟨rfl, rfl⟩)
theorem mI_X9_night {d : Nat} {args : List Value} {st st1 : mSt} {v : Option Value} (hl : (mArgs args).length ≤ 2) (h : ∀ Q : Option Value → mSt → Prop, Q v st1 → mW (mMC mT d) (0, fun _ => 0) (mAtL P_X9_night) (some .int) Q 0 (mEntry args 2) [] st) : mMC mT (d + 1) 104 args st v st1 := mMC_of (q := (yX9_night, cX9_night, 2, (some .int), 1, 880, 71, P_X9_night)) rfl hl (h _ ⟨rfl, rfl⟩)
theorem mI_X9_least {d : Nat} {args : List Value} {st st1 : mSt} {v : Option Value} (hl : (mArgs args).length ≤ 2) (h : ∀ Q : Option Value → mSt → Prop, Q v st1 → mW (mMC mT d) (0, fun _ => 0) (mAtL P_X9_least) (some .int) Q 0 (mEntry args 2) [] st) : mMC mT (d + 1) 105 args st v st1 := mMC_of (q := (yX9_least, cX9_least, 2, (some .int), 0, 896, 71, P_X9_least)) rfl hl (h _ ⟨rfl, rfl⟩)
theorem mI_X9_dry {d : Nat} {args : List Value} {st st1 : mSt} {v : Option Value} (hl : (mArgs args).length ≤ 2) (h : ∀ Q : Option Value → mSt → Prop, Q v st1 → mW (mMC mT d) (0, fun _ => 0) (mAtL P_X9_dry) (some .int) Q 0 (mEntry args 2) [] st) : mMC mT (d + 1) 106 args st v st1 := mMC_of (q := (yX9_dry, cX9_dry, 2, (some .int), 0, 900, 71, P_X9_dry)) rfl hl (h _ ⟨rfl, rfl⟩)
theorem mI_X9_tell {d : Nat} {args : List Value} {st st1 : mSt} {v : Option Value} (hl : (mArgs args).length ≤ 4) (h : ∀ Q : Option Value → mSt → Prop, Q v st1 → mW (mMC mT d) (0, fun _ => 0) (mAtL P_X9_tell) (some .int) Q 0 (mEntry args 4) [] st) : mMC mT (d + 1) 107 args st v st1 := mMC_of (q := (yX9_tell, cX9_tell, 4, (some .int), 3, 904, 71, P_X9_tell)) rfl hl (h _ ⟨rfl, rfl⟩)
theorem mI_X9_cheats {d : Nat} {args : List Value} {st st1 : mSt} {v : Option Value} (hl : (mArgs args).length ≤ 2) (h : ∀ Q : Option Value → mSt → Prop, Q v st1 → mW (mMC mT d) (0, fun _ => 0) (mAtL P_X9_cheats) (some .int) Q 0 (mEntry args 2) [] st) : mMC mT (d + 1) 108 args st v st1 := mMC_of (q := (yX9_cheats, cX9_cheats, 2, (some .int), 1, 913, 71, P_X9_cheats)) rfl hl (h _ ⟨rfl, rfl⟩)
theorem mI_X9_mark {d : Nat} {args : List Value} {st st1 : mSt} {v : Option Value} (hl : (mArgs args).length ≤ 3) (h : ∀ Q : Option Value → mSt → Prop, Q v st1 → mW (mMC mT d) (0, fun _ => 0) (mAtL P_X9_mark) (some .int) Q 0 (mEntry args 3) [] st) : mMC mT (d + 1) 109 args st v st1 := mMC_of (q := (yX9_mark, cX9_mark, 3, (some .int), 2, 941, 71, P_X9_mark)) rfl hl (h _ ⟨rfl, rfl⟩)
theorem mI_X9_keep {d : Nat} {args : List Value} {st st1 : mSt} {v : Option Value} (hl : (mArgs args).length ≤ 3) (h : ∀ Q : Option Value → mSt → Prop, Q v st1 → mW (mMC mT d) (0, fun _ => 0) (mAtL P_X9_keep) (some .int) Q 0 (mEntry args 3) [] st) : mMC mT (d + 1) 110 args st v st1 := mMC_of (q := (yX9_keep, cX9_keep, 3, (some .int), 1, 976, 71, P_X9_keep)) rfl hl (h _ ⟨rfl, rfl⟩)
theorem mI_X9_back {d : Nat} {args : List Value} {st st1 : mSt} {v : Option Value} (hl : (mArgs args).length ≤ 3) (h : ∀ Q : Option Value → mSt → Prop, Q v st1 → mW (mMC mT d) (0, fun _ => 0) (mAtL P_X9_back) (some .int) Q 0 (mEntry args 3) [] st) : mMC mT (d + 1) 111 args st v st1 := mMC_of (q := (yX9_back, cX9_back, 3, (some .int), 1, 991, 71, P_X9_back)) rfl hl (h _ ⟨rfl, rfl⟩)
theorem mI_X9_count {d : Nat} {args : List Value} {st st1 : mSt} {v : Option Value} (hl : (mArgs args).length ≤ 2) (h : ∀ Q : Option Value → mSt → Prop, Q v st1 → mW (mMC mT d) (0, fun _ => 0) (mAtL P_X9_count) (some .int) Q 0 (mEntry args 2) [] st) : mMC mT (d + 1) 112 args st v st1 := mMC_of (q := (yX9_count, cX9_count, 2, (some .int), 1, 995, 71, P_X9_count)) rfl hl (h _ ⟨rfl, rfl⟩)
theorem mI_X9_trace {d : Nat} {args : List Value} {st st1 : mSt} {v : Option Value} (hl : (mArgs args).length ≤ 1) (h : ∀ Q : Option Value → mSt → Prop, Q v st1 → mW (mMC mT d) (0, fun _ => 0) (mAtL P_X9_trace) (some .long) Q 0 (mEntry args 1) [] st) : mMC mT (d + 1) 113 args st v st1 := mMC_of (q := (yX9_trace, cX9_trace, 1, (some .long), 0, 999, 71, P_X9_trace)) rfl hl (h _ ⟨rfl, rfl⟩)
theorem mI_X9_imageAt {d : Nat} {args : List Value} {st st1 : mSt} {v : Option Value} (hl : (mArgs args).length ≤ 2) (h : ∀ Q : Option Value → mSt → Prop, Q v st1 → mW (mMC mT d) (0, fun _ => 0) (mAtL P_X9_imageAt) (some (.object "SpadeRings$Now")) Q 0 (mEntry args 2) [] st) : mMC mT (d + 1) 114 args st v st1 := mMC_of (q := (yX9_imageAt, cX9_imageAt, 2, (some (.object "SpadeRings$Now")), 1, 980, 71, P_X9_imageAt)) rfl hl (h _ ⟨rfl, rfl⟩)
theorem mI_X9_markAsPerson {d : Nat} {args : List Value} {st st1 : mSt} {v : Option Value} (hl : (mArgs args).length ≤ 2) (h : ∀ Q : Option Value → mSt → Prop, Q v st1 → mW (mMC mT d) (0, fun _ => 0) (mAtL P_X9_markAsPerson) (some .int) Q 0 (mEntry args 2) [] st) : mMC mT (d + 1) 115 args st v st1 := mMC_of (q := (yX9_markAsPerson, cX9_markAsPerson, 2, (some .int), 1, 946, 71, P_X9_markAsPerson)) rfl hl (h _ ⟨rfl, rfl⟩)
theorem mI_X9_markAsDigger {d : Nat} {args : List Value} {st st1 : mSt} {v : Option Value} (hl : (mArgs args).length ≤ 2) (h : ∀ Q : Option Value → mSt → Prop, Q v st1 → mW (mMC mT d) (0, fun _ => 0) (mAtL P_X9_markAsDigger) (some .int) Q 0 (mEntry args 2) [] st) : mMC mT (d + 1) 116 args st v st1 := mMC_of (q := (yX9_markAsDigger, cX9_markAsDigger, 2, (some .int), 1, 950, 71, P_X9_markAsDigger)) rfl hl (h _ ⟨rfl, rfl⟩)
theorem mI_X9_markAsSinger {d : Nat} {args : List Value} {st st1 : mSt} {v : Option Value} (hl : (mArgs args).length ≤ 2) (h : ∀ Q : Option Value → mSt → Prop, Q v st1 → mW (mMC mT d) (0, fun _ => 0) (mAtL P_X9_markAsSinger) (some .int) Q 0 (mEntry args 2) [] st) : mMC mT (d + 1) 117 args st v st1 := mMC_of (q := (yX9_markAsSinger, cX9_markAsSinger, 2, (some .int), 1, 956, 71, P_X9_markAsSinger)) rfl hl (h _ ⟨rfl, rfl⟩)
theorem mI_X9_markAsLeft {d : Nat} {args : List Value} {st st1 : mSt} {v : Option Value} (hl : (mArgs args).length ≤ 2) (h : ∀ Q : Option Value → mSt → Prop, Q v st1 → mW (mMC mT d) (0, fun _ => 0) (mAtL P_X9_markAsLeft) (some .int) Q 0 (mEntry args 2) [] st) : mMC mT (d + 1) 118 args st v st1 := mMC_of (q := (yX9_markAsLeft, cX9_markAsLeft, 2, (some .int), 1, 961, 71, P_X9_markAsLeft)) rfl hl (h _ ⟨rfl, rfl⟩)
theorem mI_X9_markAsProphet {d : Nat} {args : List Value} {st st1 : mSt} {v : Option Value} (hl : (mArgs args).length ≤ 2) (h : ∀ Q : Option Value → mSt → Prop, Q v st1 → mW (mMC mT d) (0, fun _ => 0) (mAtL P_X9_markAsProphet) (some .int) Q 0 (mEntry args 2) [] st) : mMC mT (d + 1) 119 args st v st1 := mMC_of (q := (yX9_markAsProphet, cX9_markAsProphet, 2, (some .int), 1, 966, 71, P_X9_markAsProphet)) rfl hl (h _ ⟨rfl, rfl⟩)
theorem mI_X9_markAsSlow {d : Nat} {args : List Value} {st st1 : mSt} {v : Option Value} (hl : (mArgs args).length ≤ 2) (h : ∀ Q : Option Value → mSt → Prop, Q v st1 → mW (mMC mT d) (0, fun _ => 0) (mAtL P_X9_markAsSlow) (some .int) Q 0 (mEntry args 2) [] st) : mMC mT (d + 1) 120 args st v st1 := mMC_of (q := (yX9_markAsSlow, cX9_markAsSlow, 2, (some .int), 1, 971, 71, P_X9_markAsSlow)) rfl hl (h _ ⟨rfl, rfl⟩)
theorem mI_X9_within {d : Nat} {args : List Value} {st st1 : mSt} {v : Option Value} (hl : (mArgs args).length ≤ 3) (h : ∀ Q : Option Value → mSt → Prop, Q v st1 → mW (mMC mT d) (0, fun _ => 0) (mAtL P_X9_within) (some .boolean) Q 0 (mEntry args 3) [] st) : mMC mT (d + 1) 121 args st v st1 := mMC_of (q := (yX9_within, cX9_within, 3, (some .boolean), 3, 423, 71, P_X9_within)) rfl hl (h _ ⟨rfl, rfl⟩)
theorem mI_X9_hasBit {d : Nat} {args : List Value} {st st1 : mSt} {v : Option Value} (hl : (mArgs args).length ≤ 2) (h : ∀ Q : Option Value → mSt → Prop, Q v st1 → mW (mMC mT d) (0, fun _ => 0) (mAtL P_X9_hasBit) (some .boolean) Q 0 (mEntry args 2) [] st) : mMC mT (d + 1) 122 args st v st1 := mMC_of (q := (yX9_hasBit, cX9_hasBit, 2, (some .boolean), 2, 625, 71, P_X9_hasBit)) rfl hl (h _ ⟨rfl, rfl⟩)
theorem mI_X9_asNumber {d : Nat} {args : List Value} {st st1 : mSt} {v : Option Value} (hl : (mArgs args).length ≤ 1) (h : ∀ Q : Option Value → mSt → Prop, Q v st1 → mW (mMC mT d) (0, fun _ => 0) (mAtL P_X9_asNumber) (some .int) Q 0 (mEntry args 1) [] st) : mMC mT (d + 1) 123 args st v st1 := mMC_of (q := (yX9_asNumber, cX9_asNumber, 1, (some .int), 1, 577, 71, P_X9_asNumber)) rfl hl (h _ ⟨rfl, rfl⟩)
theorem mI_X9_cell {d : Nat} {args : List Value} {st st1 : mSt} {v : Option Value} (hl : (mArgs args).length ≤ 2) (h : ∀ Q : Option Value → mSt → Prop, Q v st1 → mW (mMC mT d) (0, fun _ => 0) (mAtL P_X9_cell) (some .int) Q 0 (mEntry args 2) [] st) : mMC mT (d + 1) 124 args st v st1 := mMC_of (q := (yX9_cell, cX9_cell, 2, (some .int), 2, 461, 71, P_X9_cell)) rfl hl (h _ ⟨rfl, rfl⟩)
theorem mI_X9_put {d : Nat} {args : List Value} {st st1 : mSt} {v : Option Value} (hl : (mArgs args).length ≤ 3) (h : ∀ Q : Option Value → mSt → Prop, Q v st1 → mW (mMC mT d) (0, fun _ => 0) (mAtL P_X9_put) none Q 0 (mEntry args 3) [] st) : mMC mT (d + 1) 125 args st v st1 := mMC_of (q := (yX9_put, cX9_put, 3, none, 3, 434, 71, P_X9_put)) rfl hl (h _ ⟨rfl, rfl⟩)
theorem mI_X9_fill {d : Nat} {args : List Value} {st st1 : mSt} {v : Option Value} (hl : (mArgs args).length ≤ 3) (h : ∀ Q : Option Value → mSt → Prop, Q v st1 → mW (mMC mT d) (0, fun _ => 0) (mAtL P_X9_fill) none Q 0 (mEntry args 3) [] st) : mMC mT (d + 1) 126 args st v st1 := mMC_of (q := (yX9_fill, cX9_fill, 3, none, 2, 600, 71, P_X9_fill)) rfl hl (h _ ⟨rfl, rfl⟩)
theorem mI_X9_copy {d : Nat} {args : List Value} {st st1 : mSt} {v : Option Value} (hl : (mArgs args).length ≤ 3) (h : ∀ Q : Option Value → mSt → Prop, Q v st1 → mW (mMC mT d) (0, fun _ => 0) (mAtL P_X9_copy) none Q 0 (mEntry args 3) [] st) : mMC mT (d + 1) 127 args st v st1 := mMC_of (q := (yX9_copy, cX9_copy, 3, none, 2, 987, 71, P_X9_copy)) rfl hl (h _ ⟨rfl, rfl⟩)
theorem mI_X9_quotient {d : Nat} {args : List Value} {st st1 : mSt} {v : Option Value} (hl : (mArgs args).length ≤ 2) (h : ∀ Q : Option Value → mSt → Prop, Q v st1 → mW (mMC mT d) (0, fun _ => 0) (mAtL P_X9_quotient) (some .int) Q 0 (mEntry args 2) [] st) : mMC mT (d + 1) 128 args st v st1 := mMC_of (q := (yX9_quotient, cX9_quotient, 2, (some .int), 2, 670, 71, P_X9_quotient)) rfl hl (h _ ⟨rfl, rfl⟩)
theorem mI_X9_remainder {d : Nat} {args : List Value} {st st1 : mSt} {v : Option Value} (hl : (mArgs args).length ≤ 2) (h : ∀ Q : Option Value → mSt → Prop, Q v st1 → mW (mMC mT d) (0, fun _ => 0) (mAtL P_X9_remainder) (some .int) Q 0 (mEntry args 2) [] st) : mMC mT (d + 1) 129 args st v st1 := mMC_of (q := (yX9_remainder, cX9_remainder, 2, (some .int), 2, 853, 71, P_X9_remainder)) rfl hl (h _ ⟨rfl, rfl⟩)
theorem mI_X10_in {d : Nat} {args : List Value} {st st1 : mSt} {v : Option Value} (hl : (mArgs args).length ≤ 3) (h : ∀ Q : Option Value → mSt → Prop, Q v st1 → mW (mMC mT d) (0, fun _ => 0) (mAtL P_X10_in) (some .boolean) Q 0 (mEntry args 3) [] st) : mMC mT (d + 1) 130 args st v st1 := mMC_of (q := (yX10_in, cX10_in, 3, (some .boolean), 3, 1140, 81, P_X10_in)) rfl hl (h _ ⟨rfl, rfl⟩)
theorem mI_X10_type {d : Nat} {args : List Value} {st st1 : mSt} {v : Option Value} (hl : (mArgs args).length ≤ 5) (h : ∀ Q : Option Value → mSt → Prop, Q v st1 → mW (mMC mT d) (0, fun _ => 0) (mAtL P_X10_type) (some .int) Q 0 (mEntry args 5) [] st) : mMC mT (d + 1) 131 args st v st1 := mMC_of (q := (yX10_type, cX10_type, 5, (some .int), 2, 1137, 81, P_X10_type)) rfl hl (h _ ⟨rfl, rfl⟩)
theorem mI_X10_clear {d : Nat} {args : List Value} {st st1 : mSt} {v : Option Value} (hl : (mArgs args).length ≤ 2) (h : ∀ Q : Option Value → mSt → Prop, Q v st1 → mW (mMC mT d) (0, fun _ => 0) (mAtL P_X10_clear) (some .int) Q 0 (mEntry args 2) [] st) : mMC mT (d + 1) 132 args st v st1 := mMC_of (q := (yX10_clear, cX10_clear, 2, (some .int), 0, 1145, 81, P_X10_clear)) rfl hl (h _ ⟨rfl, rfl⟩)
theorem mI_X10_here {d : Nat} {args : List Value} {st st1 : mSt} {v : Option Value} (hl : (mArgs args).length ≤ 1) (h : ∀ Q : Option Value → mSt → Prop, Q v st1 → mW (mMC mT d) (0, fun _ => 0) (mAtL P_X10_here) (some .int) Q 0 (mEntry args 1) [] st) : mMC mT (d + 1) 133 args st v st1 := mMC_of (q := (yX10_here, cX10_here, 1, (some .int), 0, 1157, 81, P_X10_here)) rfl hl (h _ ⟨rfl, rfl⟩)
theorem mI_X10_meaning {d : Nat} {args : List Value} {st st1 : mSt} {v : Option Value} (hl : (mArgs args).length ≤ 1) (h : ∀ Q : Option Value → mSt → Prop, Q v st1 → mW (mMC mT d) (0, fun _ => 0) (mAtL P_X10_meaning) (some .int) Q 0 (mEntry args 1) [] st) : mMC mT (d + 1) 134 args st v st1 := mMC_of (q := (yX10_meaning, cX10_meaning, 1, (some .int), 1, 1160, 81, P_X10_meaning)) rfl hl (h _ ⟨rfl, rfl⟩)
theorem mI_X10_next {d : Nat} {args : List Value} {st st1 : mSt} {v : Option Value} (hl : (mArgs args).length ≤ 3) (h : ∀ Q : Option Value → mSt → Prop, Q v st1 → mW (mMC mT d) (0, fun _ => 0) (mAtL P_X10_next) none Q 0 (mEntry args 3) [] st) : mMC mT (d + 1) 135 args st v st1 := mMC_of (q := (yX10_next, cX10_next, 3, none, 0, 1153, 81, P_X10_next)) rfl hl (h _ ⟨rfl, rfl⟩)
theorem mI_X10_due {d : Nat} {args : List Value} {st st1 : mSt} {v : Option Value} (hl : (mArgs args).length ≤ 3) (h : ∀ Q : Option Value → mSt → Prop, Q v st1 → mW (mMC mT d) (0, fun _ => 0) (mAtL P_X10_due) (some .int) Q 0 (mEntry args 3) [] st) : mMC mT (d + 1) 136 args st v st1 := mMC_of (q := (yX10_due, cX10_due, 3, (some .int), 1, 1168, 81, P_X10_due)) rfl hl (h _ ⟨rfl, rfl⟩)
theorem mI_X10_number {d : Nat} {args : List Value} {st st1 : mSt} {v : Option Value} (hl : (mArgs args).length ≤ 3) (h : ∀ Q : Option Value → mSt → Prop, Q v st1 → mW (mMC mT d) (0, fun _ => 0) (mAtL P_X10_number) (some .int) Q 0 (mEntry args 3) [] st) : mMC mT (d + 1) 137 args st v st1 := mMC_of (q := (yX10_number, cX10_number, 3, (some .int), 2, 1172, 81, P_X10_number)) rfl hl (h _ ⟨rfl, rfl⟩)
theorem mI_X10_side {d : Nat} {args : List Value} {st st1 : mSt} {v : Option Value} (hl : (mArgs args).length ≤ 3) (h : ∀ Q : Option Value → mSt → Prop, Q v st1 → mW (mMC mT d) (0, fun _ => 0) (mAtL P_X10_side) (some .int) Q 0 (mEntry args 3) [] st) : mMC mT (d + 1) 138 args st v st1 := mMC_of (q := (yX10_side, cX10_side, 3, (some .int), 1, 1176, 81, P_X10_side)) rfl hl (h _ ⟨rfl, rfl⟩)
theorem mI_X10_readItem {d : Nat} {args : List Value} {st st1 : mSt} {v : Option Value} (hl : (mArgs args).length ≤ 3) (h : ∀ Q : Option Value → mSt → Prop, Q v st1 → mW (mMC mT d) (0, fun _ => 0) (mAtL P_X10_readItem) none Q 0 (mEntry args 3) [] st) : mMC mT (d + 1) 139 args st v st1 := mMC_of (q := (yX10_readItem, cX10_readItem, 3, none, 0, 1164, 81, P_X10_readItem)) rfl hl (h _ ⟨rfl, rfl⟩)
theorem mI_X10_gang {d : Nat} {args : List Value} {st st1 : mSt} {v : Option Value} (hl : (mArgs args).length ≤ 3) (h : ∀ Q : Option Value → mSt → Prop, Q v st1 → mW (mMC mT d) (0, fun _ => 0) (mAtL P_X10_gang) (some .int) Q 0 (mEntry args 3) [] st) : mMC mT (d + 1) 140 args st v st1 := mMC_of (q := (yX10_gang, cX10_gang, 3, (some .int), 0, 1149, 81, P_X10_gang)) rfl hl (h _ ⟨rfl, rfl⟩)
theorem mI_X10_isDigger {d : Nat} {args : List Value} {st st1 : mSt} {v : Option Value} (hl : (mArgs args).length ≤ 2) (h : ∀ Q : Option Value → mSt → Prop, Q v st1 → mW (mMC mT d) (0, fun _ => 0) (mAtL P_X10_isDigger) (some .boolean) Q 0 (mEntry args 2) [] st) : mMC mT (d + 1) 141 args st v st1 := mMC_of (q := (yX10_isDigger, cX10_isDigger, 2, (some .boolean), 1, 1188, 81, P_X10_isDigger)) rfl hl (h _ ⟨rfl, rfl⟩)
theorem mI_X10_isSpade {d : Nat} {args : List Value} {st st1 : mSt} {v : Option Value} (hl : (mArgs args).length ≤ 2) (h : ∀ Q : Option Value → mSt → Prop, Q v st1 → mW (mMC mT d) (0, fun _ => 0) (mAtL P_X10_isSpade) (some .boolean) Q 0 (mEntry args 2) [] st) : mMC mT (d + 1) 142 args st v st1 := mMC_of (q := (yX10_isSpade, cX10_isSpade, 2, (some .boolean), 1, 1196, 81, P_X10_isSpade)) rfl hl (h _ ⟨rfl, rfl⟩)
theorem mI_X10_bitsIn {d : Nat} {args : List Value} {st st1 : mSt} {v : Option Value} (hl : (mArgs args).length ≤ 3) (h : ∀ Q : Option Value → mSt → Prop, Q v st1 → mW (mMC mT d) (0, fun _ => 0) (mAtL P_X10_bitsIn) (some .int) Q 0 (mEntry args 3) [] st) : mMC mT (d + 1) 143 args st v st1 := mMC_of (q := (yX10_bitsIn, cX10_bitsIn, 3, (some .int), 1, 1353, 81, P_X10_bitsIn)) rfl hl (h _ ⟨rfl, rfl⟩)
theorem mI_X10_digger {d : Nat} {args : List Value} {st st1 : mSt} {v : Option Value} (hl : (mArgs args).length ≤ 3) (h : ∀ Q : Option Value → mSt → Prop, Q v st1 → mW (mMC mT d) (0, fun _ => 0) (mAtL P_X10_digger) (some .int) Q 0 (mEntry args 3) [] st) : mMC mT (d + 1) 144 args st v st1 := mMC_of (q := (yX10_digger, cX10_digger, 3, (some .int), 2, 1184, 81, P_X10_digger)) rfl hl (h _ ⟨rfl, rfl⟩)
theorem mI_X10_spade {d : Nat} {args : List Value} {st st1 : mSt} {v : Option Value} (hl : (mArgs args).length ≤ 3) (h : ∀ Q : Option Value → mSt → Prop, Q v st1 → mW (mMC mT d) (0, fun _ => 0) (mAtL P_X10_spade) (some .int) Q 0 (mEntry args 3) [] st) : mMC mT (d + 1) 145 args st v st1 := mMC_of (q := (yX10_spade, cX10_spade, 3, (some .int), 2, 1192, 81, P_X10_spade)) rfl hl (h _ ⟨rfl, rfl⟩)
theorem mI_X10_yard {d : Nat} {args : List Value} {st st1 : mSt} {v : Option Value} (hl : (mArgs args).length ≤ 3) (h : ∀ Q : Option Value → mSt → Prop, Q v st1 → mW (mMC mT d) (0, fun _ => 0) (mAtL P_X10_yard) (some .int) Q 0 (mEntry args 3) [] st) : mMC mT (d + 1) 146 args st v st1 := mMC_of (q := (yX10_yard, cX10_yard, 3, (some .int), 2, 1200, 81, P_X10_yard)) rfl hl (h _ ⟨rfl, rfl⟩)
theorem mI_X10_mayNow {d : Nat} {args : List Value} {st st1 : mSt} {v : Option Value} (hl : (mArgs args).length ≤ 4) (h : ∀ Q : Option Value → mSt → Prop, Q v st1 → mW (mMC mT d) (0, fun _ => 0) (mAtL P_X10_mayNow) (some .boolean) Q 0 (mEntry args 4) [] st) : mMC mT (d + 1) 147 args st v st1 := mMC_of (q := (yX10_mayNow, cX10_mayNow, 4, (some .boolean), 2, 1208, 81, P_X10_mayNow)) rfl hl (h _ ⟨rfl, rfl⟩)
theorem mI_X10_may {d : Nat} {args : List Value} {st st1 : mSt} {v : Option Value} (hl : (mArgs args).length ≤ 3) (h : ∀ Q : Option Value → mSt → Prop, Q v st1 → mW (mMC mT d) (0, fun _ => 0) (mAtL P_X10_may) (some .int) Q 0 (mEntry args 3) [] st) : mMC mT (d + 1) 148 args st v st1 := mMC_of (q := (yX10_may, cX10_may, 3, (some .int), 2, 1204, 81, P_X10_may)) rfl hl (h _ ⟨rfl, rfl⟩)
theorem mI_X10_yardNow {d : Nat} {args : List Value} {st st1 : mSt} {v : Option Value} (hl : (mArgs args).length ≤ 2) (h : ∀ Q : Option Value → mSt → Prop, Q v st1 → mW (mMC mT d) (0, fun _ => 0) (mAtL P_X10_yardNow) (some .int) Q 0 (mEntry args 2) [] st) : mMC mT (d + 1) 149 args st v st1 := mMC_of (q := (yX10_yardNow, cX10_yardNow, 2, (some .int), 0, 1216, 81, P_X10_yardNow)) rfl hl (h _ ⟨rfl, rfl⟩)
theorem mI_X10_throwWith {d : Nat} {args : List Value} {st st1 : mSt} {v : Option Value} (hl : (mArgs args).length ≤ 6) (h : ∀ Q : Option Value → mSt → Prop, Q v st1 → mW (mMC mT d) (0, fun _ => 0) (mAtL P_X10_throwWith) (some .int) Q 0 (mEntry args 6) [] st) : mMC mT (d + 1) 150 args st v st1 := mMC_of (q := (yX10_throwWith, cX10_throwWith, 6, (some .int), 2, 1212, 81, P_X10_throwWith)) rfl hl (h _ ⟨rfl, rfl⟩)
theorem mI_X10_ends {d : Nat} {args : List Value} {st st1 : mSt} {v : Option Value} (hl : (mArgs args).length ≤ 3) (h : ∀ Q : Option Value → mSt → Prop, Q v st1 → mW (mMC mT d) (0, fun _ => 0) (mAtL P_X10_ends) (some .int) Q 0 (mEntry args 3) [] st) : mMC mT (d + 1) 151 args st v st1 := mMC_of (q := (yX10_ends, cX10_ends, 3, (some .int), 0, 1220, 81, P_X10_ends)) rfl hl (h _ ⟨rfl, rfl⟩)
theorem mI_X10_breaks {d : Nat} {args : List Value} {st st1 : mSt} {v : Option Value} (hl : (mArgs args).length ≤ 3) (h : ∀ Q : Option Value → mSt → Prop, Q v st1 → mW (mMC mT d) (0, fun _ => 0) (mAtL P_X10_breaks) (some .int) Q 0 (mEntry args 3) [] st) : mMC mT (d + 1) 152 args st v st1 := mMC_of (q := (yX10_breaks, cX10_breaks, 3, (some .int), 1, 1224, 81, P_X10_breaks)) rfl hl (h _ ⟨rfl, rfl⟩)
theorem mI_X10_now {d : Nat} {args : List Value} {st st1 : mSt} {v : Option Value} (hl : (mArgs args).length ≤ 2) (h : ∀ Q : Option Value → mSt → Prop, Q v st1 → mW (mMC mT d) (0, fun _ => 0) (mAtL P_X10_now) (some .int) Q 0 (mEntry args 2) [] st) : mMC mT (d + 1) 153 args st v st1 := mMC_of (q := (yX10_now, cX10_now, 2, (some .int), 1, 1228, 81, P_X10_now)) rfl hl (h _ ⟨rfl, rfl⟩)
theorem mI_X10_anew {d : Nat} {args : List Value} {st st1 : mSt} {v : Option Value} (hl : (mArgs args).length ≤ 3) (h : ∀ Q : Option Value → mSt → Prop, Q v st1 → mW (mMC mT d) (0, fun _ => 0) (mAtL P_X10_anew) (some .int) Q 0 (mEntry args 3) [] st) : mMC mT (d + 1) 154 args st v st1 := mMC_of (q := (yX10_anew, cX10_anew, 3, (some .int), 0, 1180, 81, P_X10_anew)) rfl hl (h _ ⟨rfl, rfl⟩)
theorem mI_X10_findEdges {d : Nat} {args : List Value} {st st1 : mSt} {v : Option Value} (hl : (mArgs args).length ≤ 4) (h : ∀ Q : Option Value → mSt → Prop, Q v st1 → mW (mMC mT d) (0, fun _ => 0) (mAtL P_X10_findEdges) none Q 0 (mEntry args 4) [] st) : mMC mT (d + 1) 155 args st v st1 := mMC_of (q := (yX10_findEdges, cX10_findEdges, 4, none, 0, 1237, 81, P_X10_findEdges)) rfl hl (h _ ⟨rfl, rfl⟩)
theorem mI_X10_begin {d : Nat} {args : List Value} {st st1 : mSt} {v : Option Value} (hl : (mArgs args).length ≤ 2) (h : ∀ Q : Option Value → mSt → Prop, Q v st1 → mW (mMC mT d) (0, fun _ => 0) (mAtL P_X10_begin) none Q 0 (mEntry args 2) [] st) : mMC mT (d + 1) 156 args st v st1 := mMC_of (q := (yX10_begin, cX10_begin, 2, none, 0, 1249, 81, P_X10_begin)) rfl hl (h _ ⟨rfl, rfl⟩)
theorem mI_X10_weight {d : Nat} {args : List Value} {st st1 : mSt} {v : Option Value} (hl : (mArgs args).length ≤ 3) (h : ∀ Q : Option Value → mSt → Prop, Q v st1 → mW (mMC mT d) (0, fun _ => 0) (mAtL P_X10_weight) (some .int) Q 0 (mEntry args 3) [] st) : mMC mT (d + 1) 157 args st v st1 := mMC_of (q := (yX10_weight, cX10_weight, 3, (some .int), 2, 1262, 81, P_X10_weight)) rfl hl (h _ ⟨rfl, rfl⟩)
theorem mI_X10_findWays {d : Nat} {args : List Value} {st st1 : mSt} {v : Option Value} (hl : (mArgs args).length ≤ 8) (h : ∀ Q : Option Value → mSt → Prop, Q v st1 → mW (mMC mT d) (0, fun _ => 0) (mAtL P_X10_findWays) none Q 0 (mEntry args 8) [] st) : mMC mT (d + 1) 158 args st v st1 := mMC_of (q := (yX10_findWays, cX10_findWays, 8, none, 2, 1257, 81, P_X10_findWays)) rfl hl (h _ ⟨rfl, rfl⟩)
theorem mI_X10_augment {d : Nat} {args : List Value} {st st1 : mSt} {v : Option Value} (hl : (mArgs args).length ≤ 7) (h : ∀ Q : Option Value → mSt → Prop, Q v st1 → mW (mMC mT d) (0, fun _ => 0) (mAtL P_X10_augment) (some .int) Q 0 (mEntry args 7) [] st) : mMC mT (d + 1) 159 args st v st1 := mMC_of (q := (yX10_augment, cX10_augment, 7, (some .int), 2, 1253, 81, P_X10_augment)) rfl hl (h _ ⟨rfl, rfl⟩)
theorem mI_X10_isLong {d : Nat} {args : List Value} {st st1 : mSt} {v : Option Value} (hl : (mArgs args).length ≤ 3) (h : ∀ Q : Option Value → mSt → Prop, Q v st1 → mW (mMC mT d) (0, fun _ => 0) (mAtL P_X10_isLong) (some .boolean) Q 0 (mEntry args 3) [] st) : mMC mT (d + 1) 160 args st v st1 := mMC_of (q := (yX10_isLong, cX10_isLong, 3, (some .boolean), 1, 1245, 81, P_X10_isLong)) rfl hl (h _ ⟨rfl, rfl⟩)
theorem mI_X10_longestBy {d : Nat} {args : List Value} {st st1 : mSt} {v : Option Value} (hl : (mArgs args).length ≤ 2) (h : ∀ Q : Option Value → mSt → Prop, Q v st1 → mW (mMC mT d) (0, fun _ => 0) (mAtL P_X10_longestBy) (some .int) Q 0 (mEntry args 2) [] st) : mMC mT (d + 1) 161 args st v st1 := mMC_of (q := (yX10_longestBy, cX10_longestBy, 2, (some .int), 0, 1241, 81, P_X10_longestBy)) rfl hl (h _ ⟨rfl, rfl⟩)
theorem mI_X10_longest {d : Nat} {args : List Value} {st st1 : mSt} {v : Option Value} (hl : (mArgs args).length ≤ 1) (h : ∀ Q : Option Value → mSt → Prop, Q v st1 → mW (mMC mT d) (0, fun _ => 0) (mAtL P_X10_longest) (some .int) Q 0 (mEntry args 1) [] st) : mMC mT (d + 1) 162 args st v st1 := mMC_of (q := (yX10_longest, cX10_longest, 1, (some .int), 0, 1233, 81, P_X10_longest)) rfl hl (h _ ⟨rfl, rfl⟩)
theorem mI_X10_isUsed {d : Nat} {args : List Value} {st st1 : mSt} {v : Option Value} (hl : (mArgs args).length ≤ 4) (h : ∀ Q : Option Value → mSt → Prop, Q v st1 → mW (mMC mT d) (0, fun _ => 0) (mAtL P_X10_isUsed) (some .boolean) Q 0 (mEntry args 4) [] st) : mMC mT (d + 1) 163 args st v st1 := mMC_of (q := (yX10_isUsed, cX10_isUsed, 4, (some .boolean), 1, 1270, 81, P_X10_isUsed)) rfl hl (h _ ⟨rfl, rfl⟩)
theorem mI_X10_leaves {d : Nat} {args : List Value} {st st1 : mSt} {v : Option Value} (hl : (mArgs args).length ≤ 4) (h : ∀ Q : Option Value → mSt → Prop, Q v st1 → mW (mMC mT d) (0, fun _ => 0) (mAtL P_X10_leaves) (some .boolean) Q 0 (mEntry args 4) [] st) : mMC mT (d + 1) 164 args st v st1 := mMC_of (q := (yX10_leaves, cX10_leaves, 4, (some .boolean), 1, 1274, 81, P_X10_leaves)) rfl hl (h _ ⟨rfl, rfl⟩)
theorem mI_X10_begins {d : Nat} {args : List Value} {st st1 : mSt} {v : Option Value} (hl : (mArgs args).length ≤ 4) (h : ∀ Q : Option Value → mSt → Prop, Q v st1 → mW (mMC mT d) (0, fun _ => 0) (mAtL P_X10_begins) (some .int) Q 0 (mEntry args 4) [] st) : mMC mT (d + 1) 165 args st v st1 := mMC_of (q := (yX10_begins, cX10_begins, 4, (some .int), 1, 1266, 81, P_X10_begins)) rfl hl (h _ ⟨rfl, rfl⟩)
theorem mI_X10_most {d : Nat} {args : List Value} {st st1 : mSt} {v : Option Value} (hl : (mArgs args).length ≤ 4) (h : ∀ Q : Option Value → mSt → Prop, Q v st1 → mW (mMC mT d) (0, fun _ => 0) (mAtL P_X10_most) (some .int) Q 0 (mEntry args 4) [] st) : mMC mT (d + 1) 166 args st v st1 := mMC_of (q := (yX10_most, cX10_most, 4, (some .int), 1, 1278, 81, P_X10_most)) rfl hl (h _ ⟨rfl, rfl⟩)
theorem mI_X10_dugBy {d : Nat} {args : List Value} {st st1 : mSt} {v : Option Value} (hl : (mArgs args).length ≤ 7) (h : ∀ Q : Option Value → mSt → Prop, Q v st1 → mW (mMC mT d) (0, fun _ => 0) (mAtL P_X10_dugBy) (some .int) Q 0 (mEntry args 7) [] st) : mMC mT (d + 1) 167 args st v st1 := mMC_of (q := (yX10_dugBy, cX10_dugBy, 7, (some .int), 2, 1290, 81, P_X10_dugBy)) rfl hl (h _ ⟨rfl, rfl⟩)
theorem mI_X10_part {d : Nat} {args : List Value} {st st1 : mSt} {v : Option Value} (hl : (mArgs args).length ≤ 7) (h : ∀ Q : Option Value → mSt → Prop, Q v st1 → mW (mMC mT d) (0, fun _ => 0) (mAtL P_X10_part) (some .boolean) Q 0 (mEntry args 7) [] st) : mMC mT (d + 1) 168 args st v st1 := mMC_of (q := (yX10_part, cX10_part, 7, (some .boolean), 2, 1286, 81, P_X10_part)) rfl hl (h _ ⟨rfl, rfl⟩)
theorem mI_X10_isAhead {d : Nat} {args : List Value} {st st1 : mSt} {v : Option Value} (hl : (mArgs args).length ≤ 2) (h : ∀ Q : Option Value → mSt → Prop, Q v st1 → mW (mMC mT d) (0, fun _ => 0) (mAtL P_X10_isAhead) (some .boolean) Q 0 (mEntry args 2) [] st) : mMC mT (d + 1) 169 args st v st1 := mMC_of (q := (yX10_isAhead, cX10_isAhead, 2, (some .boolean), 0, 1294, 81, P_X10_isAhead)) rfl hl (h _ ⟨rfl, rfl⟩)
theorem mI_X10_rings {d : Nat} {args : List Value} {st st1 : mSt} {v : Option Value} (hl : (mArgs args).length ≤ 8) (h : ∀ Q : Option Value → mSt → Prop, Q v st1 → mW (mMC mT d) (0, fun _ => 0) (mAtL P_X10_rings) (some .int) Q 0 (mEntry args 8) [] st) : mMC mT (d + 1) 170 args st v st1 := mMC_of (q := (yX10_rings, cX10_rings, 8, (some .int), 3, 1282, 81, P_X10_rings)) rfl hl (h _ ⟨rfl, rfl⟩)
theorem mI_X10_stroke {d : Nat} {args : List Value} {st st1 : mSt} {v : Option Value} (hl : (mArgs args).length ≤ 7) (h : ∀ Q : Option Value → mSt → Prop, Q v st1 → mW (mMC mT d) (0, fun _ => 0) (mAtL P_X10_stroke) (some .int) Q 0 (mEntry args 7) [] st) : mMC mT (d + 1) 171 args st v st1 := mMC_of (q := (yX10_stroke, cX10_stroke, 7, (some .int), 2, 1306, 81, P_X10_stroke)) rfl hl (h _ ⟨rfl, rfl⟩)
theorem mI_X10_allLeft {d : Nat} {args : List Value} {st st1 : mSt} {v : Option Value} (hl : (mArgs args).length ≤ 3) (h : ∀ Q : Option Value → mSt → Prop, Q v st1 → mW (mMC mT d) (0, fun _ => 0) (mAtL P_X10_allLeft) (some .int) Q 0 (mEntry args 3) [] st) : mMC mT (d + 1) 172 args st v st1 := mMC_of (q := (yX10_allLeft, cX10_allLeft, 3, (some .int), 0, 1302, 81, P_X10_allLeft)) rfl hl (h _ ⟨rfl, rfl⟩)
theorem mI_X10_meeting {d : Nat} {args : List Value} {st st1 : mSt} {v : Option Value} (hl : (mArgs args).length ≤ 10) (h : ∀ Q : Option Value → mSt → Prop, Q v st1 → mW (mMC mT d) (0, fun _ => 0) (mAtL P_X10_meeting) (some .int) Q 0 (mEntry args 10) [] st) : mMC mT (d + 1) 173 args st v st1 := mMC_of (q := (yX10_meeting, cX10_meeting, 10, (some .int), 5, 1298, 81, P_X10_meeting)) rfl hl (h _ ⟨rfl, rfl⟩)
theorem mI_X10_songs {d : Nat} {args : List Value} {st st1 : mSt} {v : Option Value} (hl : (mArgs args).length ≤ 7) (h : ∀ Q : Option Value → mSt → Prop, Q v st1 → mW (mMC mT d) (0, fun _ => 0) (mAtL P_X10_songs) (some .int) Q 0 (mEntry args 7) [] st) : mMC mT (d + 1) 174 args st v st1 := mMC_of (q := (yX10_songs, cX10_songs, 7, (some .int), 4, 1310, 81, P_X10_songs)) rfl hl (h _ ⟨rfl, rfl⟩)
theorem mI_X10_hole {d : Nat} {args : List Value} {st st1 : mSt} {v : Option Value} (hl : (mArgs args).length ≤ 4) (h : ∀ Q : Option Value → mSt → Prop, Q v st1 → mW (mMC mT d) (0, fun _ => 0) (mAtL P_X10_hole) (some .int) Q 0 (mEntry args 4) [] st) : mMC mT (d + 1) 175 args st v st1 := mMC_of (q := (yX10_hole, cX10_hole, 4, (some .int), 3, 1314, 81, P_X10_hole)) rfl hl (h _ ⟨rfl, rfl⟩)
theorem mI_X10_nextHole {d : Nat} {args : List Value} {st st1 : mSt} {v : Option Value} (hl : (mArgs args).length ≤ 5) (h : ∀ Q : Option Value → mSt → Prop, Q v st1 → mW (mMC mT d) (0, fun _ => 0) (mAtL P_X10_nextHole) (some .int) Q 0 (mEntry args 5) [] st) : mMC mT (d + 1) 176 args st v st1 := mMC_of (q := (yX10_nextHole, cX10_nextHole, 5, (some .int), 1, 1326, 81, P_X10_nextHole)) rfl hl (h _ ⟨rfl, rfl⟩)
theorem mI_X10_isClosed {d : Nat} {args : List Value} {st st1 : mSt} {v : Option Value} (hl : (mArgs args).length ≤ 6) (h : ∀ Q : Option Value → mSt → Prop, Q v st1 → mW (mMC mT d) (0, fun _ => 0) (mAtL P_X10_isClosed) (some .boolean) Q 0 (mEntry args 6) [] st) : mMC mT (d + 1) 177 args st v st1 := mMC_of (q := (yX10_isClosed, cX10_isClosed, 6, (some .boolean), 1, 1322, 81, P_X10_isClosed)) rfl hl (h _ ⟨rfl, rfl⟩)
theorem mI_X10_night {d : Nat} {args : List Value} {st st1 : mSt} {v : Option Value} (hl : (mArgs args).length ≤ 2) (h : ∀ Q : Option Value → mSt → Prop, Q v st1 → mW (mMC mT d) (0, fun _ => 0) (mAtL P_X10_night) (some .int) Q 0 (mEntry args 2) [] st) : mMC mT (d + 1) 178 args st v st1 := mMC_of (q := (yX10_night, cX10_night, 2, (some .int), 1, 1318, 81, P_X10_night)) rfl hl (h _ ⟨rfl, rfl⟩)
theorem mI_X10_least {d : Nat} {args : List Value} {st st1 : mSt} {v : Option Value} (hl : (mArgs args).length ≤ 2) (h : ∀ Q : Option Value → mSt → Prop, Q v st1 → mW (mMC mT d) (0, fun _ => 0) (mAtL P_X10_least) (some .int) Q 0 (mEntry args 2) [] st) : mMC mT (d + 1) 179 args st v st1 := mMC_of (q := (yX10_least, cX10_least, 2, (some .int), 0, 1330, 81, P_X10_least)) rfl hl (h _ ⟨rfl, rfl⟩)
theorem mI_X10_dry {d : Nat} {args : List Value} {st st1 : mSt} {v : Option Value} (hl : (mArgs args).length ≤ 2) (h : ∀ Q : Option Value → mSt → Prop, Q v st1 → mW (mMC mT d) (0, fun _ => 0) (mAtL P_X10_dry) (some .int) Q 0 (mEntry args 2) [] st) : mMC mT (d + 1) 180 args st v st1 := mMC_of (q := (yX10_dry, cX10_dry, 2, (some .int), 0, 1334, 81, P_X10_dry)) rfl hl (h _ ⟨rfl, rfl⟩)
theorem mI_X10_tell {d : Nat} {args : List Value} {st st1 : mSt} {v : Option Value} (hl : (mArgs args).length ≤ 4) (h : ∀ Q : Option Value → mSt → Prop, Q v st1 → mW (mMC mT d) (0, fun _ => 0) (mAtL P_X10_tell) (some .int) Q 0 (mEntry args 4) [] st) : mMC mT (d + 1) 181 args st v st1 := mMC_of (q := (yX10_tell, cX10_tell, 4, (some .int), 3, 1338, 81, P_X10_tell)) rfl hl (h _ ⟨rfl, rfl⟩)
theorem mI_X10_isFalse {d : Nat} {args : List Value} {st st1 : mSt} {v : Option Value} (hl : (mArgs args).length ≤ 5) (h : ∀ Q : Option Value → mSt → Prop, Q v st1 → mW (mMC mT d) (0, fun _ => 0) (mAtL P_X10_isFalse) (some .boolean) Q 0 (mEntry args 5) [] st) : mMC mT (d + 1) 182 args st v st1 := mMC_of (q := (yX10_isFalse, cX10_isFalse, 5, (some .boolean), 1, 1346, 81, P_X10_isFalse)) rfl hl (h _ ⟨rfl, rfl⟩)
theorem mI_X10_cheats {d : Nat} {args : List Value} {st st1 : mSt} {v : Option Value} (hl : (mArgs args).length ≤ 6) (h : ∀ Q : Option Value → mSt → Prop, Q v st1 → mW (mMC mT d) (0, fun _ => 0) (mAtL P_X10_cheats) (some .int) Q 0 (mEntry args 6) [] st) : mMC mT (d + 1) 183 args st v st1 := mMC_of (q := (yX10_cheats, cX10_cheats, 6, (some .int), 1, 1342, 81, P_X10_cheats)) rfl hl (h _ ⟨rfl, rfl⟩)
theorem mI_X10_mark {d : Nat} {args : List Value} {st st1 : mSt} {v : Option Value} (hl : (mArgs args).length ≤ 4) (h : ∀ Q : Option Value → mSt → Prop, Q v st1 → mW (mMC mT d) (0, fun _ => 0) (mAtL P_X10_mark) (some .int) Q 0 (mEntry args 4) [] st) : mMC mT (d + 1) 184 args st v st1 := mMC_of (q := (yX10_mark, cX10_mark, 4, (some .int), 2, 1350, 81, P_X10_mark)) rfl hl (h _ ⟨rfl, rfl⟩)
theorem mI_X10_copy {d : Nat} {args : List Value} {st st1 : mSt} {v : Option Value} (hl : (mArgs args).length ≤ 4) (h : ∀ Q : Option Value → mSt → Prop, Q v st1 → mW (mMC mT d) (0, fun _ => 0) (mAtL P_X10_copy) none Q 0 (mEntry args 4) [] st) : mMC mT (d + 1) 185 args st v st1 := mMC_of (q := (yX10_copy, cX10_copy, 4, none, 2, 1366, 81, P_X10_copy)) rfl hl (h _ ⟨rfl, rfl⟩)
theorem mI_X10_keep {d : Nat} {args : List Value} {st st1 : mSt} {v : Option Value} (hl : (mArgs args).length ≤ 2) (h : ∀ Q : Option Value → mSt → Prop, Q v st1 → mW (mMC mT d) (0, fun _ => 0) (mAtL P_X10_keep) (some .int) Q 0 (mEntry args 2) [] st) : mMC mT (d + 1) 186 args st v st1 := mMC_of (q := (yX10_keep, cX10_keep, 2, (some .int), 1, 1362, 81, P_X10_keep)) rfl hl (h _ ⟨rfl, rfl⟩)
theorem mI_X10_back {d : Nat} {args : List Value} {st st1 : mSt} {v : Option Value} (hl : (mArgs args).length ≤ 2) (h : ∀ Q : Option Value → mSt → Prop, Q v st1 → mW (mMC mT d) (0, fun _ => 0) (mAtL P_X10_back) (some .int) Q 0 (mEntry args 2) [] st) : mMC mT (d + 1) 187 args st v st1 := mMC_of (q := (yX10_back, cX10_back, 2, (some .int), 1, 1370, 81, P_X10_back)) rfl hl (h _ ⟨rfl, rfl⟩)
theorem mI_X10_count {d : Nat} {args : List Value} {st st1 : mSt} {v : Option Value} (hl : (mArgs args).length ≤ 2) (h : ∀ Q : Option Value → mSt → Prop, Q v st1 → mW (mMC mT d) (0, fun _ => 0) (mAtL P_X10_count) (some .int) Q 0 (mEntry args 2) [] st) : mMC mT (d + 1) 188 args st v st1 := mMC_of (q := (yX10_count, cX10_count, 2, (some .int), 1, 1374, 81, P_X10_count)) rfl hl (h _ ⟨rfl, rfl⟩)
theorem mI_X10_trace {d : Nat} {args : List Value} {st st1 : mSt} {v : Option Value} (hl : (mArgs args).length ≤ 1) (h : ∀ Q : Option Value → mSt → Prop, Q v st1 → mW (mMC mT d) (0, fun _ => 0) (mAtL P_X10_trace) (some .long) Q 0 (mEntry args 1) [] st) : mMC mT (d + 1) 189 args st v st1 := mMC_of (q := (yX10_trace, cX10_trace, 1, (some .long), 0, 1378, 81, P_X10_trace)) rfl hl (h _ ⟨rfl, rfl⟩)
end
section
/-! small helps of both classes -/
def pI (p : Prop) [Decidable p] : Int32 := if p then 1 else 0
theorem pI_t {p : Prop} [Decidable p] (h : p) : pI p = 1 := if_pos h
theorem pI_f {p : Prop} [Decidable p] (h : ¬ p) : pI p = 0 := if_neg h
theorem pI_01 (p : Prop) [Decidable p] : pI p = 0 ∨ pI p = 1 := by
  by_cases h : p
  · exact Or.inr (pI_t h)
  · exact Or.inl (pI_f h)
theorem pI_ne {p : Prop} [Decidable p] : ¬ pI p = 0 ↔ p := by
  by_cases h : p
  · rw [pI_t h]
    exact ⟨fun _ => h, fun _ => by decide⟩
  · rw [pI_f h]
    exact ⟨fun n => absurd rfl n, fun q => absurd q h⟩
theorem pI_eq0 {p : Prop} [Decidable p] : pI p = 0 ↔ ¬ p := by
  by_cases h : p
  · rw [pI_t h]
    exact ⟨fun n => absurd n (by decide), fun n => absurd h n⟩
  · rw [pI_f h]
    exact ⟨fun _ => h, fun _ => rfl⟩
theorem pI_cong {p q : Prop} [Decidable p] [Decidable q] (h : p ↔ q) : pI p = pI q := by
  by_cases hp : p
  · rw [pI_t hp, pI_t (h.mp hp)]
  · rw [pI_f hp, pI_f (fun n => hp (h.mpr n))]
theorem pI_nar (p : Prop) [Decidable p] : narrow .boolean (.int (pI p)) = .int (pI p) := by
  rcases pI_01 p with h | h <;> rw [h] <;> rfl
set_option maxRecDepth 20000 in
/-- within(n, a, b) -/
theorem c_within (d : Nat) (n a b : Int32) (st : mSt) : mMC mT (d + 1) 121 [.int n, .int a, .int b] st (some (.int (pI (a ≤ n ∧ n ≤ b)))) st := by
  refine mI_X9_within (d := d + 0) (Nat.le_of_ble_eq_true rfl) (fun Q hq => ?_)
  show mW (mMC mT (d + 0)) (0, fun _ => 0) (mAtL P_X9_within) (some .boolean) Q 0 [some (.int n), some (.int a), some (.int b)] [] st
  refine w_blk 2 (pc' := 2) (ls' := [some (.int n), some (.int a), some (.int b)]) (sk' := [.int a, .int n]) (st' := st) (fun _ h => h) ?_
  refine w_cmp_lt rfl (fun h1 => ?_) (fun h1 => ?_)
  · refine w_blk 1 (pc' := 15) (ls' := [some (.int n), some (.int a), some (.int b)]) (sk' := [.int 0]) (st' := st) (fun _ h => h) ?_
    rw [pI_f (by simp only [Int32.le_iff_toInt_le, Int32.lt_iff_toInt_lt] at *; omega)] at hq
    exact w_iret rfl rfl rfl hq
  · refine w_blk 2 (pc' := 7) (ls' := [some (.int n), some (.int a), some (.int b)]) (sk' := [.int b, .int n]) (st' := st) (fun _ h => h) ?_
    refine w_cmp_gt rfl (fun h2 => ?_) (fun h2 => ?_)
    · refine w_blk 1 (pc' := 15) (ls' := [some (.int n), some (.int a), some (.int b)]) (sk' := [.int 0]) (st' := st) (fun _ h => h) ?_
      rw [pI_f (by simp only [Int32.le_iff_toInt_le, Int32.lt_iff_toInt_lt] at *; omega)] at hq
      exact w_iret rfl rfl rfl hq
    · refine w_blk 2 (pc' := 15) (ls' := [some (.int n), some (.int a), some (.int b)]) (sk' := [.int 1]) (st' := st) (fun _ h => h) ?_
      rw [pI_t (by simp only [Int32.le_iff_toInt_le, Int32.lt_iff_toInt_lt] at *; omega)] at hq
      exact w_iret rfl rfl rfl hq
set_option maxRecDepth 20000 in
/-- in(n, a, b) -/
theorem m_in (d : Nat) (n a b : Int32) (st : mSt) : mMC mT (d + 1) 130 [.int n, .int a, .int b] st (some (.int (pI (a ≤ n ∧ n ≤ b)))) st := by
  refine mI_X10_in (d := d + 0) (Nat.le_of_ble_eq_true rfl) (fun Q hq => ?_)
  show mW (mMC mT (d + 0)) (0, fun _ => 0) (mAtL P_X10_in) (some .boolean) Q 0 [some (.int n), some (.int a), some (.int b)] [] st
  refine w_blk 2 (pc' := 2) (ls' := [some (.int n), some (.int a), some (.int b)]) (sk' := [.int a, .int n]) (st' := st) (fun _ h => h) ?_
  refine w_cmp_lt rfl (fun h1 => ?_) (fun h1 => ?_)
  · refine w_blk 1 (pc' := 15) (ls' := [some (.int n), some (.int a), some (.int b)]) (sk' := [.int 0]) (st' := st) (fun _ h => h) ?_
    rw [pI_f (by simp only [Int32.le_iff_toInt_le, Int32.lt_iff_toInt_lt] at *; omega)] at hq
    exact w_iret rfl rfl rfl hq
  · refine w_blk 2 (pc' := 7) (ls' := [some (.int n), some (.int a), some (.int b)]) (sk' := [.int b, .int n]) (st' := st) (fun _ h => h) ?_
    refine w_cmp_gt rfl (fun h2 => ?_) (fun h2 => ?_)
    · refine w_blk 1 (pc' := 15) (ls' := [some (.int n), some (.int a), some (.int b)]) (sk' := [.int 0]) (st' := st) (fun _ h => h) ?_
      rw [pI_f (by simp only [Int32.le_iff_toInt_le, Int32.lt_iff_toInt_lt] at *; omega)] at hq
      exact w_iret rfl rfl rfl hq
    · refine w_blk 2 (pc' := 15) (ls' := [some (.int n), some (.int a), some (.int b)]) (sk' := [.int 1]) (st' := st) (fun _ h => h) ?_
      rw [pI_t (by simp only [Int32.le_iff_toInt_le, Int32.lt_iff_toInt_lt] at *; omega)] at hq
      exact w_iret rfl rfl rfl hq
set_option maxRecDepth 20000 in
/-- asNumber(x) -/
theorem c_asNumber (d : Nat) (x : Int32) (st : mSt) : mMC mT (d + 1) 123 [.int x] st (some (.int (if x = 0 then 0 else 1))) st := by
  refine mI_X9_asNumber (d := d + 0) (Nat.le_of_ble_eq_true rfl) (fun Q hq => ?_)
  show mW (mMC mT (d + 0)) (0, fun _ => 0) (mAtL P_X9_asNumber) (some .int) Q 0 [some (.int x)] [] st
  refine w_blk 1 (pc' := 1) (ls' := [some (.int x)]) (sk' := [.int x]) (st' := st) (fun _ h => h) ?_
  refine w_if_eq rfl (fun h1 => ?_) (fun h1 => ?_)
  · refine w_blk 1 (pc' := 9) (ls' := [some (.int x)]) (sk' := [.int 0]) (st' := st) (fun _ h => h) ?_
    simp only [h1, if_true, if_false] at hq
    exact w_iret rfl rfl rfl hq
  · refine w_blk 2 (pc' := 9) (ls' := [some (.int x)]) (sk' := [.int 1]) (st' := st) (fun _ h => h) ?_
    simp only [h1, if_true, if_false] at hq
    exact w_iret rfl rfl rfl hq
set_option maxRecDepth 20000 in
/-- max -/
theorem c_max (d : Nat) (x y : Int32) (st : mSt) : mMC mT (d + 1) 3 [.int x, .int y] st (some (.int (if x < y then y else x))) st := by
  refine mI_J9_max_7cf53 (d := d + 0) (Nat.le_of_ble_eq_true rfl) (fun Q hq => ?_)
  show mW (mMC mT (d + 0)) (0, fun _ => 0) (mAtL P_J9_max_7cf53) (some .int) Q 0 [some (.int x), some (.int y)] [] st
  refine w_blk 2 (pc' := 2) (ls' := [some (.int x), some (.int y)]) (sk' := [.int y, .int x]) (st' := st) (fun _ h => h) ?_
  refine w_cmp_lt rfl (fun h1 => ?_) (fun h1 => ?_)
  · refine w_blk 1 (pc' := 10) (ls' := [some (.int x), some (.int y)]) (sk' := [.int y]) (st' := st) (fun _ h => h) ?_
    first | rw [if_pos (by simp only [Int32.le_iff_toInt_le, Int32.lt_iff_toInt_lt] at *; omega)] at hq | rw [if_neg (by simp only [Int32.le_iff_toInt_le, Int32.lt_iff_toInt_lt] at *; omega)] at hq
    exact w_iret rfl rfl rfl hq
  · refine w_blk 2 (pc' := 10) (ls' := [some (.int x), some (.int y)]) (sk' := [.int x]) (st' := st) (fun _ h => h) ?_
    first | rw [if_pos (by simp only [Int32.le_iff_toInt_le, Int32.lt_iff_toInt_lt] at *; omega)] at hq | rw [if_neg (by simp only [Int32.le_iff_toInt_le, Int32.lt_iff_toInt_lt] at *; omega)] at hq
    exact w_iret rfl rfl rfl hq
set_option maxRecDepth 20000 in
/-- min -/
theorem c_min (d : Nat) (x y : Int32) (st : mSt) : mMC mT (d + 1) 4 [.int x, .int y] st (some (.int (if y < x then y else x))) st := by
  refine mI_J9_min_7cf53 (d := d + 0) (Nat.le_of_ble_eq_true rfl) (fun Q hq => ?_)
  show mW (mMC mT (d + 0)) (0, fun _ => 0) (mAtL P_J9_min_7cf53) (some .int) Q 0 [some (.int x), some (.int y)] [] st
  refine w_blk 2 (pc' := 2) (ls' := [some (.int x), some (.int y)]) (sk' := [.int y, .int x]) (st' := st) (fun _ h => h) ?_
  refine w_cmp_gt rfl (fun h1 => ?_) (fun h1 => ?_)
  · refine w_blk 1 (pc' := 10) (ls' := [some (.int x), some (.int y)]) (sk' := [.int y]) (st' := st) (fun _ h => h) ?_
    first | rw [if_pos (by simp only [Int32.le_iff_toInt_le, Int32.lt_iff_toInt_lt] at *; omega)] at hq | rw [if_neg (by simp only [Int32.le_iff_toInt_le, Int32.lt_iff_toInt_lt] at *; omega)] at hq
    exact w_iret rfl rfl rfl hq
  · refine w_blk 2 (pc' := 10) (ls' := [some (.int x), some (.int y)]) (sk' := [.int x]) (st' := st) (fun _ h => h) ?_
    first | rw [if_pos (by simp only [Int32.le_iff_toInt_le, Int32.lt_iff_toInt_lt] at *; omega)] at hq | rw [if_neg (by simp only [Int32.le_iff_toInt_le, Int32.lt_iff_toInt_lt] at *; omega)] at hq
    exact w_iret rfl rfl rfl hq
abbrev bitP (b p : Int32) : Prop := 0 ≤ p ∧ p < 32 ∧ ¬ ((Int32.toUInt32 b >>> (Int32.toUInt32 p &&& Int32.toUInt32 31)).toInt32 &&& 1) = 0
set_option maxRecDepth 20000 in
/-- hasBit(b, p) -/
theorem c_hasBit (d : Nat) (b p : Int32) (st : mSt) : mMC mT (d + 1) 122 [.int b, .int p] st (some (.int (pI (bitP b p)))) st := by
  refine mI_X9_hasBit (d := d + 0) (Nat.le_of_ble_eq_true rfl) (fun Q hq => ?_)
  show mW (mMC mT (d + 0)) (0, fun _ => 0) (mAtL P_X9_hasBit) (some .boolean) Q 0 [some (.int b), some (.int p)] [] st
  refine w_blk 1 (pc' := 1) (ls' := [some (.int b), some (.int p)]) (sk' := [.int p]) (st' := st) (fun _ h => h) ?_
  refine w_if_lt rfl (fun h1 => ?_) (fun h1 => ?_)
  · refine w_blk 1 (pc' := 23) (ls' := [some (.int b), some (.int p)]) (sk' := [.int 0]) (st' := st) (fun _ h => h) ?_
    rw [pI_f (fun hh => by first | exact absurd hh.1 (by simp only [Int32.le_iff_toInt_le, Int32.lt_iff_toInt_lt] at *; omega) | exact absurd hh.2.1 (by simp only [Int32.le_iff_toInt_le, Int32.lt_iff_toInt_lt] at *; omega) | exact hh.2.2 (by assumption))] at hq
    exact w_iret rfl rfl rfl hq
  · refine w_blk 2 (pc' := 7) (ls' := [some (.int b), some (.int p)]) (sk' := [.int 32, .int p]) (st' := st) (fun _ h => h) ?_
    refine w_cmp_ge rfl (fun h2 => ?_) (fun h2 => ?_)
    · refine w_blk 1 (pc' := 23) (ls' := [some (.int b), some (.int p)]) (sk' := [.int 0]) (st' := st) (fun _ h => h) ?_
      rw [pI_f (fun hh => by first | exact absurd hh.1 (by simp only [Int32.le_iff_toInt_le, Int32.lt_iff_toInt_lt] at *; omega) | exact absurd hh.2.1 (by simp only [Int32.le_iff_toInt_le, Int32.lt_iff_toInt_lt] at *; omega) | exact hh.2.2 (by assumption))] at hq
      exact w_iret rfl rfl rfl hq
    · refine w_blk 5 (pc' := 15) (ls' := [some (.int b), some (.int p)]) (sk' := [.int (((Int32.toUInt32 b >>> (Int32.toUInt32 p &&& Int32.toUInt32 31)).toInt32) &&& 1)]) (st' := st) (fun _ h => h) ?_
      refine w_if_eq rfl (fun h3 => ?_) (fun h3 => ?_)
      · refine w_blk 1 (pc' := 23) (ls' := [some (.int b), some (.int p)]) (sk' := [.int 0]) (st' := st) (fun _ h => h) ?_
        rw [pI_f (fun hh => by first | exact absurd hh.1 (by simp only [Int32.le_iff_toInt_le, Int32.lt_iff_toInt_lt] at *; omega) | exact absurd hh.2.1 (by simp only [Int32.le_iff_toInt_le, Int32.lt_iff_toInt_lt] at *; omega) | exact hh.2.2 (by assumption))] at hq
        exact w_iret rfl rfl rfl hq
      · refine w_blk 2 (pc' := 23) (ls' := [some (.int b), some (.int p)]) (sk' := [.int 1]) (st' := st) (fun _ h => h) ?_
        rw [pI_t (⟨by simp only [Int32.le_iff_toInt_le, Int32.lt_iff_toInt_lt] at *; omega, by simp only [Int32.le_iff_toInt_le, Int32.lt_iff_toInt_lt] at *; omega, by assumption⟩)] at hq
        exact w_iret rfl rfl rfl hq
set_option maxRecDepth 20000 in
/-- asNumber of a truth -/
theorem c_asNumberP (d : Nat) (p : Prop) [Decidable p] (st : mSt) : mMC mT (d + 1) 123 [.int (pI p)] st (some (.int (pI p))) st := by
  refine mI_X9_asNumber (d := d + 0) (Nat.le_of_ble_eq_true rfl) (fun Q hq => ?_)
  show mW (mMC mT (d + 0)) (0, fun _ => 0) (mAtL P_X9_asNumber) (some .int) Q 0 [some (.int (pI p))] [] st
  refine w_blk 1 (pc' := 1) (ls' := [some (.int (pI p))]) (sk' := [.int (pI p)]) (st' := st) (fun _ h => h) ?_
  refine w_if_eq rfl (fun h1 => ?_) (fun h1 => ?_)
  · replace h1 := pI_eq0.mp h1
    refine w_blk 1 (pc' := 9) (ls' := [some (.int (pI p))]) (sk' := [.int 0]) (st' := st) (fun _ h => h) ?_
    rw [pI_f h1] at hq
    exact w_iret rfl rfl rfl hq
  · replace h1 := pI_ne.mp h1
    refine w_blk 2 (pc' := 9) (ls' := [some (.int (pI p))]) (sk' := [.int 1]) (st' := st) (fun _ h => h) ?_
    rw [pI_t h1] at hq
    exact w_iret rfl rfl rfl hq
set_option maxRecDepth 20000 in
/-- quotient -/
theorem c_quot (d : Nat) (x y : Int32) (st : mSt) : mMC mT (d + 1) 128 [.int x, .int y] st (some (.int (if y < 1 then 0 else x / y))) st := by
  refine mI_X9_quotient (d := d + 0) (Nat.le_of_ble_eq_true rfl) (fun Q hq => ?_)
  show mW (mMC mT (d + 0)) (0, fun _ => 0) (mAtL P_X9_quotient) (some .int) Q 0 [some (.int x), some (.int y)] [] st
  refine w_blk 2 (pc' := 2) (ls' := [some (.int x), some (.int y)]) (sk' := [.int 1, .int y]) (st' := st) (fun _ h => h) ?_
  refine w_cmp_ge rfl (fun h1 => ?_) (fun h1 => ?_)
  · refine w_blk 2 (pc' := 11) (ls' := [some (.int x), some (.int y)]) (sk' := [.int y, .int x]) (st' := st) (fun _ h => h) ?_
    refine w_div rfl (fun e => absurd h1 (by rw [e]; decide)) ?_
    first | rw [if_pos (by simp only [Int32.le_iff_toInt_le, Int32.lt_iff_toInt_lt] at *; omega)] at hq | rw [if_neg (by simp only [Int32.le_iff_toInt_le, Int32.lt_iff_toInt_lt] at *; omega)] at hq
    exact w_iret rfl rfl rfl hq
  · refine w_blk 2 (pc' := 12) (ls' := [some (.int x), some (.int y)]) (sk' := [.int 0]) (st' := st) (fun _ h => h) ?_
    first | rw [if_pos (by simp only [Int32.le_iff_toInt_le, Int32.lt_iff_toInt_lt] at *; omega)] at hq | rw [if_neg (by simp only [Int32.le_iff_toInt_le, Int32.lt_iff_toInt_lt] at *; omega)] at hq
    exact w_iret rfl rfl rfl hq
set_option maxRecDepth 20000 in
/-- remainder -/
theorem c_rem (d : Nat) (x y : Int32) (st : mSt) : mMC mT (d + 1) 129 [.int x, .int y] st (some (.int (if y < 1 then 0 else x - x / y * y))) st := by
  refine mI_X9_remainder (d := d + 0) (Nat.le_of_ble_eq_true rfl) (fun Q hq => ?_)
  show mW (mMC mT (d + 0)) (0, fun _ => 0) (mAtL P_X9_remainder) (some .int) Q 0 [some (.int x), some (.int y)] [] st
  refine w_blk 2 (pc' := 2) (ls' := [some (.int x), some (.int y)]) (sk' := [.int 1, .int y]) (st' := st) (fun _ h => h) ?_
  refine w_cmp_ge rfl (fun h1 => ?_) (fun h1 => ?_)
  · refine w_blk 2 (pc' := 11) (ls' := [some (.int x), some (.int y)]) (sk' := [.int y, .int x]) (st' := st) (fun _ h => h) ?_
    refine w_rem rfl (fun e => absurd h1 (by rw [e]; decide)) ?_
    first | rw [if_pos (by simp only [Int32.le_iff_toInt_le, Int32.lt_iff_toInt_lt] at *; omega)] at hq | rw [if_neg (by simp only [Int32.le_iff_toInt_le, Int32.lt_iff_toInt_lt] at *; omega)] at hq
    exact w_iret rfl rfl rfl hq
  · refine w_blk 2 (pc' := 12) (ls' := [some (.int x), some (.int y)]) (sk' := [.int 0]) (st' := st) (fun _ h => h) ?_
    first | rw [if_pos (by simp only [Int32.le_iff_toInt_le, Int32.lt_iff_toInt_lt] at *; omega)] at hq | rw [if_neg (by simp only [Int32.le_iff_toInt_le, Int32.lt_iff_toInt_lt] at *; omega)] at hq
    exact w_iret rfl rfl rfl hq
def celV (f : Nat → Int32) (n : Nat) (i : Int32) : Int32 := if i < 0 then 0 else if nI n ≤ i then 0 else f i.toNatClampNeg
theorem celV_at {f : Nat → Int32} {n k : Nat} (h : k < n) (hn : n < 2 ^ 31) : celV f n (nI k) = f k := by
  unfold celV
  rw [if_neg (nI_pos (by omega)), if_neg (nI_ge h hn), nI_clamp (by omega)]
def putU (st : mSt) (a n : Nat) (i x : Int32) : mSt := if i < 0 then st else if nI n ≤ i then st else (mU st.1 a i.toNatClampNeg x, st.2)
theorem putU_at {st : mSt} {a n k : Nat} {x : Int32} (h : k < n) (hn : n < 2 ^ 31) : putU st a n (nI k) x = (mU st.1 a k x, st.2) := by
  unfold putU
  rw [if_neg (nI_pos (by omega)), if_neg (nI_ge h hn), nI_clamp (by omega)]
def filU (f : Nat → Nat → Int32) (a n : Nat) (x : Int32) : Nat → Nat → Int32 := fun q j => if q = a ∧ j < n then x else f q j
theorem filU_0 {f : Nat → Nat → Int32} {a : Nat} {x : Int32} : filU f a 0 x = f := by
  funext q j
  exact if_neg (fun h => Nat.not_lt_zero _ h.2)
theorem filU_s {f : Nat → Nat → Int32} {a n : Nat} {x : Int32} : mU (filU f a n x) a n x = filU f a (n + 1) x := by
  funext q j
  by_cases hq : q = a
  · subst hq
    show (if q = q then upd (filU f q n x q) n x else filU f q n x q) j = _
    rw [if_pos rfl]
    show (if j = n then x else (if q = q ∧ j < n then x else f q j)) = (if q = q ∧ j < n + 1 then x else f q j)
    by_cases h1 : j = n
    · rw [if_pos h1, if_pos ⟨rfl, by omega⟩]
    · rw [if_neg h1]
      by_cases h2 : j < n
      · rw [if_pos ⟨rfl, h2⟩, if_pos ⟨rfl, by omega⟩]
      · rw [if_neg (fun h => h2 h.2), if_neg (fun h => h2 (by have := h.2; omega))]
  · show (if q = a then upd (filU f a n x a) n x else filU f a n x q) j = _
    rw [if_neg hq]
    show (if q = a ∧ j < n then x else f q j) = (if q = a ∧ j < n + 1 then x else f q j)
    rw [if_neg (fun h => hq h.1), if_neg (fun h => hq h.1)]
theorem filU_ne {f : Nat → Nat → Int32} {a n q : Nat} {x : Int32} (h : q ≠ a) : filU f a n x q = f q := by
  funext j
  exact if_neg (fun e => h e.1)
theorem filU_at {f : Nat → Nat → Int32} {a n j : Nat} {x : Int32} (h : j < n) : filU f a n x a j = x := if_pos ⟨rfl, h⟩
def cpyU (f : Nat → Nat → Int32) (a b n : Nat) : Nat → Nat → Int32 := fun q j => if q = b ∧ j < n then f a j else f q j
theorem cpyU_0 {f : Nat → Nat → Int32} {a b : Nat} : cpyU f a b 0 = f := by
  funext q j
  exact if_neg (fun h => Nat.not_lt_zero _ h.2)
theorem cpyU_s {f : Nat → Nat → Int32} {a b n : Nat} : mU (cpyU f a b n) b n (f a n) = cpyU f a b (n + 1) := by
  funext q j
  by_cases hq : q = b
  · subst hq
    show (if q = q then upd (cpyU f a q n q) n (f a n) else cpyU f a q n q) j = _
    rw [if_pos rfl]
    show (if j = n then f a n else (if q = q ∧ j < n then f a j else f q j)) = (if q = q ∧ j < n + 1 then f a j else f q j)
    by_cases h1 : j = n
    · rw [if_pos h1, if_pos ⟨rfl, by omega⟩, h1]
    · rw [if_neg h1]
      by_cases h2 : j < n
      · rw [if_pos ⟨rfl, h2⟩, if_pos ⟨rfl, by omega⟩]
      · rw [if_neg (fun h => h2 h.2), if_neg (fun h => h2 (by have := h.2; omega))]
  · show (if q = b then upd (cpyU f a b n b) n (f a n) else cpyU f a b n q) j = _
    rw [if_neg hq]
    show (if q = b ∧ j < n then f a j else f q j) = (if q = b ∧ j < n + 1 then f a j else f q j)
    rw [if_neg (fun h => hq h.1), if_neg (fun h => hq h.1)]
theorem cpyU_ne {f : Nat → Nat → Int32} {a b n q : Nat} (h : q ≠ b) : cpyU f a b n q = f q := by
  funext j
  exact if_neg (fun e => h e.1)
theorem cpyU_at {f : Nat → Nat → Int32} {a b n j : Nat} (h : j < n) : cpyU f a b n b j = f a j := if_pos ⟨rfl, h⟩
theorem lay0_130 {a n : Nat} {fs : List (Nat × Nat)} (h : lay a = (0, n, fs)) : Nat.beq a 130 = false := by
  have h1 : a < 86 := lay_lt (by rw [h]; simp)
  cases hb : Nat.beq a 130
  · rfl
  · have := Nat.eq_of_beq_eq_true hb
    omega
theorem vp_in_ii {i : Int32} {n : Nat} (hn : n < 2 ^ 31) (h1 : ¬ i < 0) (h2 : ¬ nI n ≤ i) : vp_in i n := by
  rw [vp_in_iff]
  simp only [Int32.le_iff_toInt_le, Int32.lt_iff_toInt_lt, nI_toInt hn] at h1 h2
  have h0 : (0 : Int32).toInt = 0 := rfl
  omega
set_option maxRecDepth 20000 in
/-- cell(row, i) -/
theorem c_cell (d : Nat) (a n : Nat) (i : Int32) (st : mSt) (hn : n < 2 ^ 31) (hl : lay a = (0, n, [])) : mMC mT (d + 1) 124 [.ref a, .int i] st (some (.int (celV (st.1 a) n i))) st := by
  refine mI_X9_cell (d := d + 0) (Nat.le_of_ble_eq_true rfl) (fun Q hq => ?_)
  show mW (mMC mT (d + 0)) (0, fun _ => 0) (mAtL P_X9_cell) (some .int) Q 0 [some (.ref a), some (.int i)] [] st
  refine w_blk 1 (pc' := 1) (ls' := [some (.ref a), some (.int i)]) (sk' := [.int i]) (st' := st) (fun _ h => h) ?_
  refine w_if_lt rfl (fun h1 => ?_) (fun h1 => ?_)
  · refine w_blk 1 (pc' := 17) (ls' := [some (.ref a), some (.int i)]) (sk' := [.int 0]) (st' := st) (fun _ h => h) ?_
    unfold celV at hq
    first | rw [if_pos (by assumption)] at hq | rw [if_neg (by assumption), if_pos (by assumption)] at hq | rw [if_neg (by assumption), if_neg (by assumption)] at hq
    exact w_iret rfl rfl rfl hq
  · refine w_blk 1 (pc' := 5) (ls' := [some (.ref a), some (.int i)]) (sk' := [.int i]) (st' := st) (fun _ h => h) ?_
    refine w_aload_n rfl rfl (lay0_130 hl) ?_
    refine w_alen rfl hl ?_
    refine w_cmp_ge rfl (fun h2 => ?_) (fun h2 => ?_)
    · refine w_blk 1 (pc' := 17) (ls' := [some (.ref a), some (.int i)]) (sk' := [.int 0]) (st' := st) (fun _ h => h) ?_
      unfold celV at hq
      first | rw [if_pos (by assumption)] at hq | rw [if_neg (by assumption), if_pos (by assumption)] at hq | rw [if_neg (by assumption), if_neg (by assumption)] at hq
      exact w_iret rfl rfl rfl hq
    · refine w_aload_n rfl rfl (lay0_130 hl) ?_
      refine w_blk 1 (pc' := 12) (ls' := [some (.ref a), some (.int i)]) (sk' := [.int i, .ref a]) (st' := st) (fun _ h => h) ?_
      refine w_iald rfl hl (vp_in_ii hn (by assumption) (by assumption)) ?_
      refine w_blk 1 (pc' := 17) (ls' := [some (.ref a), some (.int i)]) (sk' := [.int (st.1 a (Int32.toNatClampNeg i))]) (st' := st) (fun _ h => h) ?_
      unfold celV at hq
      first | rw [if_pos (by assumption)] at hq | rw [if_neg (by assumption), if_pos (by assumption)] at hq | rw [if_neg (by assumption), if_neg (by assumption)] at hq
      exact w_iret rfl rfl rfl hq
set_option maxRecDepth 20000 in
/-- put(row, i, x) -/
theorem c_put (d : Nat) (a n : Nat) (i x : Int32) (st : mSt) (hn : n < 2 ^ 31) (hl : lay a = (0, n, [])) : mMC mT (d + 1) 125 [.ref a, .int i, .int x] st (none) (putU st a n i x) := by
  refine mI_X9_put (d := d + 0) (Nat.le_of_ble_eq_true rfl) (fun Q hq => ?_)
  show mW (mMC mT (d + 0)) (0, fun _ => 0) (mAtL P_X9_put) none Q 0 [some (.ref a), some (.int i), some (.int x)] [] st
  refine w_blk 1 (pc' := 1) (ls' := [some (.ref a), some (.int i), some (.int x)]) (sk' := [.int i]) (st' := st) (fun _ h => h) ?_
  refine w_if_lt rfl (fun h1 => ?_) (fun h1 => ?_)
  · unfold putU at hq
    first | rw [if_pos (by assumption)] at hq | rw [if_neg (by assumption), if_pos (by assumption)] at hq | rw [if_neg (by assumption), if_neg (by assumption)] at hq
    exact w_vret rfl rfl hq
  · refine w_blk 1 (pc' := 5) (ls' := [some (.ref a), some (.int i), some (.int x)]) (sk' := [.int i]) (st' := st) (fun _ h => h) ?_
    refine w_aload_n rfl rfl (lay0_130 hl) ?_
    refine w_alen rfl hl ?_
    refine w_cmp_ge rfl (fun h2 => ?_) (fun h2 => ?_)
    · unfold putU at hq
      first | rw [if_pos (by assumption)] at hq | rw [if_neg (by assumption), if_pos (by assumption)] at hq | rw [if_neg (by assumption), if_neg (by assumption)] at hq
      exact w_vret rfl rfl hq
    · refine w_aload_n rfl rfl (lay0_130 hl) ?_
      refine w_blk 2 (pc' := 13) (ls' := [some (.ref a), some (.int i), some (.int x)]) (sk' := [.int x, .int i, .ref a]) (st' := st) (fun _ h => h) ?_
      refine w_iast rfl hl (vp_in_ii hn (by assumption) (by assumption)) ?_
      unfold putU at hq
      first | rw [if_pos (by assumption)] at hq | rw [if_neg (by assumption), if_pos (by assumption)] at hq | rw [if_neg (by assumption), if_neg (by assumption)] at hq
      exact w_vret rfl rfl hq
set_option maxRecDepth 20000 in
/-- fill(row, x) -/
theorem c_fill (d : Nat) (a n : Nat) (x : Int32) (st : mSt) (hn : n < 2 ^ 31) (hl : lay a = (0, n, [])) : mMC mT (d + 1) 126 [.ref a, .int x] st (none) (filU st.1 a n x, st.2) := by
  refine mI_X9_fill (d := d + 0) (Nat.le_of_ble_eq_true rfl) (fun Q hq => ?_)
  show mW (mMC mT (d + 0)) (0, fun _ => 0) (mAtL P_X9_fill) none Q 0 [some (.ref a), some (.int x), none] [] st
  refine w_blk 2 (pc' := 2) (ls' := [some (.ref a), some (.int x), some (.int 0)]) (sk' := []) (st' := st) (fun _ h => h) ?_
  suffices key : ∀ (m k : Nat), k + m = n → mW (mMC mT (d + 0)) (0, fun _ => 0) (mAtL P_X9_fill) none Q 2 [some (.ref a), some (.int x), some (.int (nI k))] [] (filU st.1 a k x, st.2) by
    have := key n 0 (by omega)
    rw [filU_0] at this
    exact this
  intro m
  induction m with
  | zero =>
    intro k hk
    refine w_blk 1 (pc' := 3) (ls' := [some (.ref a), some (.int x), some (.int (nI k))]) (sk' := [.int (nI k)]) (st' := (filU st.1 a k x, st.2)) (fun _ h => h) ?_
    refine w_aload_n rfl rfl (lay0_130 hl) ?_
    refine w_alen rfl hl ?_
    refine w_cmp_ge rfl (fun _ => ?_) (fun hno => absurd (by rw [show k = n by omega]; exact Int32.le_refl _) hno)
    exact w_vret rfl rfl (by rw [show k = n by omega]; exact hq)
  | succ m ih =>
    intro k hk
    refine w_blk 1 (pc' := 3) (ls' := [some (.ref a), some (.int x), some (.int (nI k))]) (sk' := [.int (nI k)]) (st' := (filU st.1 a k x, st.2)) (fun _ h => h) ?_
    refine w_aload_n rfl rfl (lay0_130 hl) ?_
    refine w_alen rfl hl ?_
    refine w_cmp_ge rfl (fun hno => absurd hno (nI_ge (show k < n by omega) hn)) (fun _ => ?_)
    refine w_aload_n rfl rfl (lay0_130 hl) ?_
    refine w_blk 2 (pc' := 11) (ls' := [some (.ref a), some (.int x), some (.int (nI k))]) (sk' := [.int x, .int (nI k), .ref a]) (st' := (filU st.1 a k x, st.2)) (fun _ h => h) ?_
    refine w_iast rfl hl (vp_in_nI (show k < n by omega) hn) ?_
    rw [nI_clamp (show k < 2 ^ 31 by omega)]
    refine w_blk 2 (pc' := 2) (ls' := [some (.ref a), some (.int x), some (.int ((nI k) + 1))]) (sk' := []) (st' := ((mU (filU st.1 a k x, st.2).1 a k x), (filU st.1 a k x, st.2).2)) (fun _ h => h) ?_
    show mW (mMC mT (d + 0)) (0, fun _ => 0) (mAtL P_X9_fill) none Q 2 [some (.ref a), some (.int x), some (.int ((nI k) + 1))] [] (mU (filU st.1 a k x) a k x, st.2)
    rw [filU_s, nI_1]
    exact ih (k + 1) (by omega)
set_option maxRecDepth 20000 in
/-- copy(from, into), rows of one length -/
theorem c_copy (d : Nat) (a b n : Nat) (st : mSt) (hn : n < 2 ^ 31) (hl : lay a = (0, n, [])) (hl2 : lay b = (0, n, [])) (hab : a ≠ b) : mMC mT (d + 1) 127 [.ref a, .ref b] st (none) (cpyU st.1 a b n, st.2) := by
  refine mI_X9_copy (d := d + 0) (Nat.le_of_ble_eq_true rfl) (fun Q hq => ?_)
  show mW (mMC mT (d + 0)) (0, fun _ => 0) (mAtL P_X9_copy) none Q 0 [some (.ref a), some (.ref b), none] [] st
  refine w_blk 2 (pc' := 2) (ls' := [some (.ref a), some (.ref b), some (.int 0)]) (sk' := []) (st' := st) (fun _ h => h) ?_
  suffices key : ∀ (m k : Nat), k + m = n → mW (mMC mT (d + 0)) (0, fun _ => 0) (mAtL P_X9_copy) none Q 2 [some (.ref a), some (.ref b), some (.int (nI k))] [] (cpyU st.1 a b k, st.2) by
    have := key n 0 (by omega)
    rw [cpyU_0] at this
    exact this
  intro m
  induction m with
  | zero =>
    intro k hk
    refine w_blk 1 (pc' := 3) (ls' := [some (.ref a), some (.ref b), some (.int (nI k))]) (sk' := [.int (nI k)]) (st' := (cpyU st.1 a b k, st.2)) (fun _ h => h) ?_
    refine w_aload_n rfl rfl (lay0_130 hl) ?_
    refine w_alen rfl hl ?_
    refine w_cmp_ge rfl (fun _ => ?_) (fun hno => absurd (by rw [show k = n by omega]; exact Int32.le_refl _) hno)
    exact w_vret rfl rfl (by rw [show k = n by omega]; exact hq)
  | succ m ih =>
    intro k hk
    refine w_blk 1 (pc' := 3) (ls' := [some (.ref a), some (.ref b), some (.int (nI k))]) (sk' := [.int (nI k)]) (st' := (cpyU st.1 a b k, st.2)) (fun _ h => h) ?_
    refine w_aload_n rfl rfl (lay0_130 hl) ?_
    refine w_alen rfl hl ?_
    refine w_cmp_ge rfl (fun hno => absurd hno (nI_ge (show k < n by omega) hn)) (fun _ => ?_)
    refine w_blk 1 (pc' := 9) (ls' := [some (.ref a), some (.ref b), some (.int (nI k))]) (sk' := [.int (nI k)]) (st' := (cpyU st.1 a b k, st.2)) (fun _ h => h) ?_
    refine w_aload_n rfl rfl (lay0_130 hl2) ?_
    refine w_alen rfl hl2 ?_
    refine w_cmp_ge rfl (fun hno => absurd hno (nI_ge (show k < n by omega) hn)) (fun _ => ?_)
    refine w_aload_n rfl rfl (lay0_130 hl2) ?_
    refine w_blk 1 (pc' := 16) (ls' := [some (.ref a), some (.ref b), some (.int (nI k))]) (sk' := [.int (nI k), .ref b]) (st' := (cpyU st.1 a b k, st.2)) (fun _ h => h) ?_
    refine w_aload_n rfl rfl (lay0_130 hl) ?_
    refine w_blk 1 (pc' := 18) (ls' := [some (.ref a), some (.ref b), some (.int (nI k))]) (sk' := [.int (nI k), .ref a, .int (nI k), .ref b]) (st' := (cpyU st.1 a b k, st.2)) (fun _ h => h) ?_
    refine w_iald rfl hl (vp_in_nI (show k < n by omega) hn) ?_
    rw [nI_clamp (show k < 2 ^ 31 by omega)]
    show mW (mMC mT (d + 0)) (0, fun _ => 0) (mAtL P_X9_copy) none Q 19 [some (.ref a), some (.ref b), some (.int (nI k))] [.int (cpyU st.1 a b k a k), .int (nI k), .ref b] (cpyU st.1 a b k, st.2)
    rw [cpyU_ne hab]
    refine w_iast rfl hl2 (vp_in_nI (show k < n by omega) hn) ?_
    rw [nI_clamp (show k < 2 ^ 31 by omega)]
    refine w_blk 2 (pc' := 2) (ls' := [some (.ref a), some (.ref b), some (.int ((nI k) + 1))]) (sk' := []) (st' := ((mU (cpyU st.1 a b k, st.2).1 b k (st.1 a k)), (cpyU st.1 a b k, st.2).2)) (fun _ h => h) ?_
    show mW (mMC mT (d + 0)) (0, fun _ => 0) (mAtL P_X9_copy) none Q 2 [some (.ref a), some (.ref b), some (.int ((nI k) + 1))] [] (mU (cpyU st.1 a b k) b k (st.1 a k), st.2)
    rw [cpyU_s, nI_1]
    exact ih (k + 1) (by omega)
theorem c_cellK (d a n k : Nat) (st : mSt) (hk : k < n) (hn : n < 2 ^ 31) (hl : lay a = (0, n, [])) : mMC mT (d + 1) 124 [.ref a, .int (nI k)] st (some (.int (st.1 a k))) st := by
  have h := c_cell d a n (nI k) st hn hl
  rw [celV_at hk hn] at h
  exact h
theorem c_putK (d a n k : Nat) (x : Int32) (st : mSt) (hk : k < n) (hn : n < 2 ^ 31) (hl : lay a = (0, n, [])) : mMC mT (d + 1) 125 [.ref a, .int (nI k), .int x] st none (mU st.1 a k x, st.2) := by
  have h := c_put d a n (nI k) x st hn hl
  rw [putU_at hk hn] at h
  exact h
end
section
/-! who and what there is: the reads, for both places of it (5, 13) -/
set_option maxRecDepth 20000 in
/-- hasDigger(x) -/
theorem c_hasDigger_5 (d : Nat) (x : Int32) (st : mSt) : mMC mT (d + 1) 20 [.ref 5, .int x] st (some (.int (pI (0 ≤ x ∧ x < st.1 5 0)))) st := by
  refine mI_X1_hasDigger (d := d + 0) (Nat.le_of_ble_eq_true rfl) (fun Q hq => ?_)
  show mW (mMC mT (d + 0)) (0, fun _ => 0) (mAtL P_X1_hasDigger) (some .boolean) Q 0 [some (.ref 5), some (.int x)] [] st
  refine w_blk 1 (pc' := 1) (ls' := [some (.ref 5), some (.int x)]) (sk' := [.int x]) (st' := st) (fun _ h => h) ?_
  refine w_if_lt rfl (fun h1 => ?_) (fun h1 => ?_)
  · refine w_blk 1 (pc' := 17) (ls' := [some (.ref 5), some (.int x)]) (sk' := [.int 0]) (st' := st) (fun _ h => h) ?_
    rw [pI_f (by first | grind | (simp only [Int32.le_iff_toInt_le, Int32.lt_iff_toInt_lt] at *; omega))] at hq
    exact w_iret rfl rfl rfl hq
  · refine w_blk 3 (pc' := 9) (ls' := [some (.ref 5), some (.int x)]) (sk' := [.int (st.1 5 0), .int x]) (st' := st) (fun _ h => h) ?_
    refine w_cmp_ge rfl (fun h2 => ?_) (fun h2 => ?_)
    · refine w_blk 1 (pc' := 17) (ls' := [some (.ref 5), some (.int x)]) (sk' := [.int 0]) (st' := st) (fun _ h => h) ?_
      rw [pI_f (by first | grind | (simp only [Int32.le_iff_toInt_le, Int32.lt_iff_toInt_lt] at *; omega))] at hq
      exact w_iret rfl rfl rfl hq
    · refine w_blk 2 (pc' := 17) (ls' := [some (.ref 5), some (.int x)]) (sk' := [.int 1]) (st' := st) (fun _ h => h) ?_
      rw [pI_t (by first | grind | (simp only [Int32.le_iff_toInt_le, Int32.lt_iff_toInt_lt] at *; omega))] at hq
      exact w_iret rfl rfl rfl hq
set_option maxRecDepth 20000 in
/-- hasDigger(x) -/
theorem c_hasDigger_13 (d : Nat) (x : Int32) (st : mSt) : mMC mT (d + 1) 20 [.ref 13, .int x] st (some (.int (pI (0 ≤ x ∧ x < st.1 13 0)))) st := by
  refine mI_X1_hasDigger (d := d + 0) (Nat.le_of_ble_eq_true rfl) (fun Q hq => ?_)
  show mW (mMC mT (d + 0)) (0, fun _ => 0) (mAtL P_X1_hasDigger) (some .boolean) Q 0 [some (.ref 13), some (.int x)] [] st
  refine w_blk 1 (pc' := 1) (ls' := [some (.ref 13), some (.int x)]) (sk' := [.int x]) (st' := st) (fun _ h => h) ?_
  refine w_if_lt rfl (fun h1 => ?_) (fun h1 => ?_)
  · refine w_blk 1 (pc' := 17) (ls' := [some (.ref 13), some (.int x)]) (sk' := [.int 0]) (st' := st) (fun _ h => h) ?_
    rw [pI_f (by first | grind | (simp only [Int32.le_iff_toInt_le, Int32.lt_iff_toInt_lt] at *; omega))] at hq
    exact w_iret rfl rfl rfl hq
  · refine w_blk 3 (pc' := 9) (ls' := [some (.ref 13), some (.int x)]) (sk' := [.int (st.1 13 0), .int x]) (st' := st) (fun _ h => h) ?_
    refine w_cmp_ge rfl (fun h2 => ?_) (fun h2 => ?_)
    · refine w_blk 1 (pc' := 17) (ls' := [some (.ref 13), some (.int x)]) (sk' := [.int 0]) (st' := st) (fun _ h => h) ?_
      rw [pI_f (by first | grind | (simp only [Int32.le_iff_toInt_le, Int32.lt_iff_toInt_lt] at *; omega))] at hq
      exact w_iret rfl rfl rfl hq
    · refine w_blk 2 (pc' := 17) (ls' := [some (.ref 13), some (.int x)]) (sk' := [.int 1]) (st' := st) (fun _ h => h) ?_
      rw [pI_t (by first | grind | (simp only [Int32.le_iff_toInt_le, Int32.lt_iff_toInt_lt] at *; omega))] at hq
      exact w_iret rfl rfl rfl hq
set_option maxRecDepth 20000 in
/-- hasSpade(x) -/
theorem c_hasSpade_5 (d : Nat) (x : Int32) (st : mSt) : mMC mT (d + 1) 21 [.ref 5, .int x] st (some (.int (pI (0 ≤ x ∧ x < st.1 5 1)))) st := by
  refine mI_X1_hasSpade (d := d + 0) (Nat.le_of_ble_eq_true rfl) (fun Q hq => ?_)
  show mW (mMC mT (d + 0)) (0, fun _ => 0) (mAtL P_X1_hasSpade) (some .boolean) Q 0 [some (.ref 5), some (.int x)] [] st
  refine w_blk 1 (pc' := 1) (ls' := [some (.ref 5), some (.int x)]) (sk' := [.int x]) (st' := st) (fun _ h => h) ?_
  refine w_if_lt rfl (fun h1 => ?_) (fun h1 => ?_)
  · refine w_blk 1 (pc' := 17) (ls' := [some (.ref 5), some (.int x)]) (sk' := [.int 0]) (st' := st) (fun _ h => h) ?_
    rw [pI_f (by first | grind | (simp only [Int32.le_iff_toInt_le, Int32.lt_iff_toInt_lt] at *; omega))] at hq
    exact w_iret rfl rfl rfl hq
  · refine w_blk 3 (pc' := 9) (ls' := [some (.ref 5), some (.int x)]) (sk' := [.int (st.1 5 1), .int x]) (st' := st) (fun _ h => h) ?_
    refine w_cmp_ge rfl (fun h2 => ?_) (fun h2 => ?_)
    · refine w_blk 1 (pc' := 17) (ls' := [some (.ref 5), some (.int x)]) (sk' := [.int 0]) (st' := st) (fun _ h => h) ?_
      rw [pI_f (by first | grind | (simp only [Int32.le_iff_toInt_le, Int32.lt_iff_toInt_lt] at *; omega))] at hq
      exact w_iret rfl rfl rfl hq
    · refine w_blk 2 (pc' := 17) (ls' := [some (.ref 5), some (.int x)]) (sk' := [.int 1]) (st' := st) (fun _ h => h) ?_
      rw [pI_t (by first | grind | (simp only [Int32.le_iff_toInt_le, Int32.lt_iff_toInt_lt] at *; omega))] at hq
      exact w_iret rfl rfl rfl hq
set_option maxRecDepth 20000 in
/-- hasSpade(x) -/
theorem c_hasSpade_13 (d : Nat) (x : Int32) (st : mSt) : mMC mT (d + 1) 21 [.ref 13, .int x] st (some (.int (pI (0 ≤ x ∧ x < st.1 13 1)))) st := by
  refine mI_X1_hasSpade (d := d + 0) (Nat.le_of_ble_eq_true rfl) (fun Q hq => ?_)
  show mW (mMC mT (d + 0)) (0, fun _ => 0) (mAtL P_X1_hasSpade) (some .boolean) Q 0 [some (.ref 13), some (.int x)] [] st
  refine w_blk 1 (pc' := 1) (ls' := [some (.ref 13), some (.int x)]) (sk' := [.int x]) (st' := st) (fun _ h => h) ?_
  refine w_if_lt rfl (fun h1 => ?_) (fun h1 => ?_)
  · refine w_blk 1 (pc' := 17) (ls' := [some (.ref 13), some (.int x)]) (sk' := [.int 0]) (st' := st) (fun _ h => h) ?_
    rw [pI_f (by first | grind | (simp only [Int32.le_iff_toInt_le, Int32.lt_iff_toInt_lt] at *; omega))] at hq
    exact w_iret rfl rfl rfl hq
  · refine w_blk 3 (pc' := 9) (ls' := [some (.ref 13), some (.int x)]) (sk' := [.int (st.1 13 1), .int x]) (st' := st) (fun _ h => h) ?_
    refine w_cmp_ge rfl (fun h2 => ?_) (fun h2 => ?_)
    · refine w_blk 1 (pc' := 17) (ls' := [some (.ref 13), some (.int x)]) (sk' := [.int 0]) (st' := st) (fun _ h => h) ?_
      rw [pI_f (by first | grind | (simp only [Int32.le_iff_toInt_le, Int32.lt_iff_toInt_lt] at *; omega))] at hq
      exact w_iret rfl rfl rfl hq
    · refine w_blk 2 (pc' := 17) (ls' := [some (.ref 13), some (.int x)]) (sk' := [.int 1]) (st' := st) (fun _ h => h) ?_
      rw [pI_t (by first | grind | (simp only [Int32.le_iff_toInt_le, Int32.lt_iff_toInt_lt] at *; omega))] at hq
      exact w_iret rfl rfl rfl hq
set_option maxRecDepth 20000 in
/-- hasYard(x) -/
theorem c_hasYard_5 (d : Nat) (x : Int32) (st : mSt) : mMC mT (d + 1) 22 [.ref 5, .int x] st (some (.int (pI (0 ≤ x ∧ x < st.1 5 2)))) st := by
  refine mI_X1_hasYard (d := d + 0) (Nat.le_of_ble_eq_true rfl) (fun Q hq => ?_)
  show mW (mMC mT (d + 0)) (0, fun _ => 0) (mAtL P_X1_hasYard) (some .boolean) Q 0 [some (.ref 5), some (.int x)] [] st
  refine w_blk 1 (pc' := 1) (ls' := [some (.ref 5), some (.int x)]) (sk' := [.int x]) (st' := st) (fun _ h => h) ?_
  refine w_if_lt rfl (fun h1 => ?_) (fun h1 => ?_)
  · refine w_blk 1 (pc' := 17) (ls' := [some (.ref 5), some (.int x)]) (sk' := [.int 0]) (st' := st) (fun _ h => h) ?_
    rw [pI_f (by first | grind | (simp only [Int32.le_iff_toInt_le, Int32.lt_iff_toInt_lt] at *; omega))] at hq
    exact w_iret rfl rfl rfl hq
  · refine w_blk 3 (pc' := 9) (ls' := [some (.ref 5), some (.int x)]) (sk' := [.int (st.1 5 2), .int x]) (st' := st) (fun _ h => h) ?_
    refine w_cmp_ge rfl (fun h2 => ?_) (fun h2 => ?_)
    · refine w_blk 1 (pc' := 17) (ls' := [some (.ref 5), some (.int x)]) (sk' := [.int 0]) (st' := st) (fun _ h => h) ?_
      rw [pI_f (by first | grind | (simp only [Int32.le_iff_toInt_le, Int32.lt_iff_toInt_lt] at *; omega))] at hq
      exact w_iret rfl rfl rfl hq
    · refine w_blk 2 (pc' := 17) (ls' := [some (.ref 5), some (.int x)]) (sk' := [.int 1]) (st' := st) (fun _ h => h) ?_
      rw [pI_t (by first | grind | (simp only [Int32.le_iff_toInt_le, Int32.lt_iff_toInt_lt] at *; omega))] at hq
      exact w_iret rfl rfl rfl hq
set_option maxRecDepth 20000 in
/-- hasYard(x) -/
theorem c_hasYard_13 (d : Nat) (x : Int32) (st : mSt) : mMC mT (d + 1) 22 [.ref 13, .int x] st (some (.int (pI (0 ≤ x ∧ x < st.1 13 2)))) st := by
  refine mI_X1_hasYard (d := d + 0) (Nat.le_of_ble_eq_true rfl) (fun Q hq => ?_)
  show mW (mMC mT (d + 0)) (0, fun _ => 0) (mAtL P_X1_hasYard) (some .boolean) Q 0 [some (.ref 13), some (.int x)] [] st
  refine w_blk 1 (pc' := 1) (ls' := [some (.ref 13), some (.int x)]) (sk' := [.int x]) (st' := st) (fun _ h => h) ?_
  refine w_if_lt rfl (fun h1 => ?_) (fun h1 => ?_)
  · refine w_blk 1 (pc' := 17) (ls' := [some (.ref 13), some (.int x)]) (sk' := [.int 0]) (st' := st) (fun _ h => h) ?_
    rw [pI_f (by first | grind | (simp only [Int32.le_iff_toInt_le, Int32.lt_iff_toInt_lt] at *; omega))] at hq
    exact w_iret rfl rfl rfl hq
  · refine w_blk 3 (pc' := 9) (ls' := [some (.ref 13), some (.int x)]) (sk' := [.int (st.1 13 2), .int x]) (st' := st) (fun _ h => h) ?_
    refine w_cmp_ge rfl (fun h2 => ?_) (fun h2 => ?_)
    · refine w_blk 1 (pc' := 17) (ls' := [some (.ref 13), some (.int x)]) (sk' := [.int 0]) (st' := st) (fun _ h => h) ?_
      rw [pI_f (by first | grind | (simp only [Int32.le_iff_toInt_le, Int32.lt_iff_toInt_lt] at *; omega))] at hq
      exact w_iret rfl rfl rfl hq
    · refine w_blk 2 (pc' := 17) (ls' := [some (.ref 13), some (.int x)]) (sk' := [.int 1]) (st' := st) (fun _ h => h) ?_
      rw [pI_t (by first | grind | (simp only [Int32.le_iff_toInt_le, Int32.lt_iff_toInt_lt] at *; omega))] at hq
      exact w_iret rfl rfl rfl hq
set_option maxRecDepth 20000 in
/-- suits(x, s) -/
theorem c_suits_5 (d : Nat) (x s : Int32) (st : mSt) : mMC mT (d + 2) 26 [.ref 5, .int x, .int s] st (some (.int (pI (celV (st.1 10) 8 s = 0 ∨ celV (st.1 10) 8 s = celV (st.1 8) 6 x + 1)))) st := by
  refine mI_X1_suits (d := d + 1) (Nat.le_of_ble_eq_true rfl) (fun Q hq => ?_)
  show mW (mMC mT (d + 1)) (0, fun _ => 0) (mAtL P_X1_suits) (some .boolean) Q 0 [some (.ref 5), some (.int x), some (.int s), none] [] st
  refine w_blk 3 (pc' := 5) (ls' := [some (.ref 5), some (.int x), some (.int s), none]) (sk' := [.int s, .ref 10]) (st' := st) (fun _ h => h) ?_
  refine w_callS (As := [.ref 10, .int s]) (rest := []) rfl rfl rfl (Nat.le_of_ble_eq_true rfl) (Nat.le_of_ble_eq_true rfl) (c_cell (d + 0) 10 8 s st (by decide) rfl) ?_
  refine w_blk 2 (pc' := 10) (ls' := [some (.ref 5), some (.int x), some (.int s), some (.int (celV (st.1 10) 8 s))]) (sk' := [.int (celV (st.1 10) 8 s)]) (st' := st) (fun _ h => h) ?_
  refine w_if_eq rfl (fun h1 => ?_) (fun h1 => ?_)
  · refine w_blk 2 (pc' := 32) (ls' := [some (.ref 5), some (.int x), some (.int s), some (.int (celV (st.1 10) 8 s))]) (sk' := [.int 1]) (st' := st) (fun _ h => h) ?_
    rw [pI_t (by first | grind | (simp only [Int32.le_iff_toInt_le, Int32.lt_iff_toInt_lt] at *; omega))] at hq
    exact w_iret rfl rfl rfl hq
  · refine w_blk 4 (pc' := 19) (ls' := [some (.ref 5), some (.int x), some (.int s), some (.int (celV (st.1 10) 8 s))]) (sk' := [.int x, .ref 8, .int (celV (st.1 10) 8 s)]) (st' := st) (fun _ h => h) ?_
    refine w_callS (As := [.ref 8, .int x]) (rest := [.int (celV (st.1 10) 8 s)]) rfl rfl rfl (Nat.le_of_ble_eq_true rfl) (Nat.le_of_ble_eq_true rfl) (c_cell (d + 0) 8 6 x st (by decide) rfl) ?_
    refine w_blk 2 (pc' := 24) (ls' := [some (.ref 5), some (.int x), some (.int s), some (.int (celV (st.1 10) 8 s))]) (sk' := [.int ((celV (st.1 8) 6 x) + 1), .int (celV (st.1 10) 8 s)]) (st' := st) (fun _ h => h) ?_
    refine w_cmp_ne rfl (fun h2 => ?_) (fun h2 => ?_)
    · refine w_blk 1 (pc' := 32) (ls' := [some (.ref 5), some (.int x), some (.int s), some (.int (celV (st.1 10) 8 s))]) (sk' := [.int 0]) (st' := st) (fun _ h => h) ?_
      rw [pI_f (by first | grind | (simp only [Int32.le_iff_toInt_le, Int32.lt_iff_toInt_lt] at *; omega))] at hq
      exact w_iret rfl rfl rfl hq
    · refine w_blk 2 (pc' := 32) (ls' := [some (.ref 5), some (.int x), some (.int s), some (.int (celV (st.1 10) 8 s))]) (sk' := [.int 1]) (st' := st) (fun _ h => h) ?_
      rw [pI_t (by first | grind | (simp only [Int32.le_iff_toInt_le, Int32.lt_iff_toInt_lt] at *; omega))] at hq
      exact w_iret rfl rfl rfl hq
set_option maxRecDepth 20000 in
/-- suits(x, s) -/
theorem c_suits_13 (d : Nat) (x s : Int32) (st : mSt) : mMC mT (d + 2) 26 [.ref 13, .int x, .int s] st (some (.int (pI (celV (st.1 18) 8 s = 0 ∨ celV (st.1 18) 8 s = celV (st.1 16) 6 x + 1)))) st := by
  refine mI_X1_suits (d := d + 1) (Nat.le_of_ble_eq_true rfl) (fun Q hq => ?_)
  show mW (mMC mT (d + 1)) (0, fun _ => 0) (mAtL P_X1_suits) (some .boolean) Q 0 [some (.ref 13), some (.int x), some (.int s), none] [] st
  refine w_blk 3 (pc' := 5) (ls' := [some (.ref 13), some (.int x), some (.int s), none]) (sk' := [.int s, .ref 18]) (st' := st) (fun _ h => h) ?_
  refine w_callS (As := [.ref 18, .int s]) (rest := []) rfl rfl rfl (Nat.le_of_ble_eq_true rfl) (Nat.le_of_ble_eq_true rfl) (c_cell (d + 0) 18 8 s st (by decide) rfl) ?_
  refine w_blk 2 (pc' := 10) (ls' := [some (.ref 13), some (.int x), some (.int s), some (.int (celV (st.1 18) 8 s))]) (sk' := [.int (celV (st.1 18) 8 s)]) (st' := st) (fun _ h => h) ?_
  refine w_if_eq rfl (fun h1 => ?_) (fun h1 => ?_)
  · refine w_blk 2 (pc' := 32) (ls' := [some (.ref 13), some (.int x), some (.int s), some (.int (celV (st.1 18) 8 s))]) (sk' := [.int 1]) (st' := st) (fun _ h => h) ?_
    rw [pI_t (by first | grind | (simp only [Int32.le_iff_toInt_le, Int32.lt_iff_toInt_lt] at *; omega))] at hq
    exact w_iret rfl rfl rfl hq
  · refine w_blk 4 (pc' := 19) (ls' := [some (.ref 13), some (.int x), some (.int s), some (.int (celV (st.1 18) 8 s))]) (sk' := [.int x, .ref 16, .int (celV (st.1 18) 8 s)]) (st' := st) (fun _ h => h) ?_
    refine w_callS (As := [.ref 16, .int x]) (rest := [.int (celV (st.1 18) 8 s)]) rfl rfl rfl (Nat.le_of_ble_eq_true rfl) (Nat.le_of_ble_eq_true rfl) (c_cell (d + 0) 16 6 x st (by decide) rfl) ?_
    refine w_blk 2 (pc' := 24) (ls' := [some (.ref 13), some (.int x), some (.int s), some (.int (celV (st.1 18) 8 s))]) (sk' := [.int ((celV (st.1 16) 6 x) + 1), .int (celV (st.1 18) 8 s)]) (st' := st) (fun _ h => h) ?_
    refine w_cmp_ne rfl (fun h2 => ?_) (fun h2 => ?_)
    · refine w_blk 1 (pc' := 32) (ls' := [some (.ref 13), some (.int x), some (.int s), some (.int (celV (st.1 18) 8 s))]) (sk' := [.int 0]) (st' := st) (fun _ h => h) ?_
      rw [pI_f (by first | grind | (simp only [Int32.le_iff_toInt_le, Int32.lt_iff_toInt_lt] at *; omega))] at hq
      exact w_iret rfl rfl rfl hq
    · refine w_blk 2 (pc' := 32) (ls' := [some (.ref 13), some (.int x), some (.int s), some (.int (celV (st.1 18) 8 s))]) (sk' := [.int 1]) (st' := st) (fun _ h => h) ?_
      rw [pI_t (by first | grind | (simp only [Int32.le_iff_toInt_le, Int32.lt_iff_toInt_lt] at *; omega))] at hq
      exact w_iret rfl rfl rfl hq
set_option maxRecDepth 20000 in
/-- product(x, s) -/
theorem c_product_5 (d : Nat) (x s : Int32) (st : mSt) : mMC mT (d + 2) 27 [.ref 5, .int x, .int s] st (some (.int (celV (st.1 6) 6 x * celV (st.1 9) 8 s))) st := by
  refine mI_X1_product (d := d + 1) (Nat.le_of_ble_eq_true rfl) (fun Q hq => ?_)
  show mW (mMC mT (d + 1)) (0, fun _ => 0) (mAtL P_X1_product) (some .int) Q 0 [some (.ref 5), some (.int x), some (.int s)] [] st
  refine w_blk 3 (pc' := 5) (ls' := [some (.ref 5), some (.int x), some (.int s)]) (sk' := [.int x, .ref 6]) (st' := st) (fun _ h => h) ?_
  refine w_callS (As := [.ref 6, .int x]) (rest := []) rfl rfl rfl (Nat.le_of_ble_eq_true rfl) (Nat.le_of_ble_eq_true rfl) (c_cell (d + 0) 6 6 x st (by decide) rfl) ?_
  refine w_blk 3 (pc' := 13) (ls' := [some (.ref 5), some (.int x), some (.int s)]) (sk' := [.int s, .ref 9, .int (celV (st.1 6) 6 x)]) (st' := st) (fun _ h => h) ?_
  refine w_callS (As := [.ref 9, .int s]) (rest := [.int (celV (st.1 6) 6 x)]) rfl rfl rfl (Nat.le_of_ble_eq_true rfl) (Nat.le_of_ble_eq_true rfl) (c_cell (d + 0) 9 8 s st (by decide) rfl) ?_
  refine w_blk 1 (pc' := 17) (ls' := [some (.ref 5), some (.int x), some (.int s)]) (sk' := [.int ((celV (st.1 6) 6 x) * (celV (st.1 9) 8 s))]) (st' := st) (fun _ h => h) ?_
  exact w_iret rfl rfl rfl hq
set_option maxRecDepth 20000 in
/-- product(x, s) -/
theorem c_product_13 (d : Nat) (x s : Int32) (st : mSt) : mMC mT (d + 2) 27 [.ref 13, .int x, .int s] st (some (.int (celV (st.1 14) 6 x * celV (st.1 17) 8 s))) st := by
  refine mI_X1_product (d := d + 1) (Nat.le_of_ble_eq_true rfl) (fun Q hq => ?_)
  show mW (mMC mT (d + 1)) (0, fun _ => 0) (mAtL P_X1_product) (some .int) Q 0 [some (.ref 13), some (.int x), some (.int s)] [] st
  refine w_blk 3 (pc' := 5) (ls' := [some (.ref 13), some (.int x), some (.int s)]) (sk' := [.int x, .ref 14]) (st' := st) (fun _ h => h) ?_
  refine w_callS (As := [.ref 14, .int x]) (rest := []) rfl rfl rfl (Nat.le_of_ble_eq_true rfl) (Nat.le_of_ble_eq_true rfl) (c_cell (d + 0) 14 6 x st (by decide) rfl) ?_
  refine w_blk 3 (pc' := 13) (ls' := [some (.ref 13), some (.int x), some (.int s)]) (sk' := [.int s, .ref 17, .int (celV (st.1 14) 6 x)]) (st' := st) (fun _ h => h) ?_
  refine w_callS (As := [.ref 17, .int s]) (rest := [.int (celV (st.1 14) 6 x)]) rfl rfl rfl (Nat.le_of_ble_eq_true rfl) (Nat.le_of_ble_eq_true rfl) (c_cell (d + 0) 17 8 s st (by decide) rfl) ?_
  refine w_blk 1 (pc' := 17) (ls' := [some (.ref 13), some (.int x), some (.int s)]) (sk' := [.int ((celV (st.1 14) 6 x) * (celV (st.1 17) 8 s))]) (st' := st) (fun _ h => h) ?_
  exact w_iret rfl rfl rfl hq
set_option maxRecDepth 20000 in
/-- clodsOf(y) -/
theorem c_clodsOf_5 (d : Nat) (y : Int32) (st : mSt) : mMC mT (d + 2) 28 [.ref 5, .int y] st (some (.int (celV (st.1 11) 8 y * celV (st.1 12) 8 y))) st := by
  refine mI_X1_clodsOf (d := d + 1) (Nat.le_of_ble_eq_true rfl) (fun Q hq => ?_)
  show mW (mMC mT (d + 1)) (0, fun _ => 0) (mAtL P_X1_clodsOf) (some .int) Q 0 [some (.ref 5), some (.int y)] [] st
  refine w_blk 3 (pc' := 5) (ls' := [some (.ref 5), some (.int y)]) (sk' := [.int y, .ref 11]) (st' := st) (fun _ h => h) ?_
  refine w_callS (As := [.ref 11, .int y]) (rest := []) rfl rfl rfl (Nat.le_of_ble_eq_true rfl) (Nat.le_of_ble_eq_true rfl) (c_cell (d + 0) 11 8 y st (by decide) rfl) ?_
  refine w_blk 3 (pc' := 13) (ls' := [some (.ref 5), some (.int y)]) (sk' := [.int y, .ref 12, .int (celV (st.1 11) 8 y)]) (st' := st) (fun _ h => h) ?_
  refine w_callS (As := [.ref 12, .int y]) (rest := [.int (celV (st.1 11) 8 y)]) rfl rfl rfl (Nat.le_of_ble_eq_true rfl) (Nat.le_of_ble_eq_true rfl) (c_cell (d + 0) 12 8 y st (by decide) rfl) ?_
  refine w_blk 1 (pc' := 17) (ls' := [some (.ref 5), some (.int y)]) (sk' := [.int ((celV (st.1 11) 8 y) * (celV (st.1 12) 8 y))]) (st' := st) (fun _ h => h) ?_
  exact w_iret rfl rfl rfl hq
set_option maxRecDepth 20000 in
/-- clodsOf(y) -/
theorem c_clodsOf_13 (d : Nat) (y : Int32) (st : mSt) : mMC mT (d + 2) 28 [.ref 13, .int y] st (some (.int (celV (st.1 19) 8 y * celV (st.1 20) 8 y))) st := by
  refine mI_X1_clodsOf (d := d + 1) (Nat.le_of_ble_eq_true rfl) (fun Q hq => ?_)
  show mW (mMC mT (d + 1)) (0, fun _ => 0) (mAtL P_X1_clodsOf) (some .int) Q 0 [some (.ref 13), some (.int y)] [] st
  refine w_blk 3 (pc' := 5) (ls' := [some (.ref 13), some (.int y)]) (sk' := [.int y, .ref 19]) (st' := st) (fun _ h => h) ?_
  refine w_callS (As := [.ref 19, .int y]) (rest := []) rfl rfl rfl (Nat.le_of_ble_eq_true rfl) (Nat.le_of_ble_eq_true rfl) (c_cell (d + 0) 19 8 y st (by decide) rfl) ?_
  refine w_blk 3 (pc' := 13) (ls' := [some (.ref 13), some (.int y)]) (sk' := [.int y, .ref 20, .int (celV (st.1 19) 8 y)]) (st' := st) (fun _ h => h) ?_
  refine w_callS (As := [.ref 20, .int y]) (rest := [.int (celV (st.1 19) 8 y)]) rfl rfl rfl (Nat.le_of_ble_eq_true rfl) (Nat.le_of_ble_eq_true rfl) (c_cell (d + 0) 20 8 y st (by decide) rfl) ?_
  refine w_blk 1 (pc' := 17) (ls' := [some (.ref 13), some (.int y)]) (sk' := [.int ((celV (st.1 19) 8 y) * (celV (st.1 20) 8 y))]) (st' := st) (fun _ h => h) ?_
  exact w_iret rfl rfl rfl hq
end
section
/-! PICTURES: what the cells of both sides hold, in numbers: n (diggers, spades, yards), c (rows 0 .. 6: strength, pace, hand, sharp, whom, deep, soil), now: v (0 .. 2: round, beats, all earth), u (3 who, 4 with, 5 broken, 6 .. threw, 12 .. out), yd (the yard that is dug) -/
def X5 (st : mSt) (n : Nat → Nat) (c : Nat → Nat → Nat) : Prop := st.1 5 0 = nI (n 0) ∧ st.1 5 1 = nI (n 1) ∧ st.1 5 2 = nI (n 2) ∧ (∀ d, d < n 0 → st.1 6 d = nI (c 0 d) ∧ st.1 7 d = nI (c 1 d) ∧ st.1 8 d = nI (c 2 d)) ∧ (∀ s, s < n 1 → st.1 9 s = nI (c 3 s) ∧ st.1 10 s = nI (c 4 s)) ∧ (∀ y, y < n 2 → st.1 11 y = nI (c 5 y) ∧ st.1 12 y = nI (c 6 y))
def X13 (st : mSt) (n : Nat → Nat) (c : Nat → Nat → Nat) : Prop := st.1 13 0 = nI (n 0) ∧ st.1 13 1 = nI (n 1) ∧ st.1 13 2 = nI (n 2) ∧ (∀ d, d < n 0 → st.1 14 d = nI (c 0 d) ∧ st.1 15 d = nI (c 1 d) ∧ st.1 16 d = nI (c 2 d)) ∧ (∀ s, s < n 1 → st.1 17 s = nI (c 3 s) ∧ st.1 18 s = nI (c 4 s)) ∧ (∀ y, y < n 2 → st.1 19 y = nI (c 5 y) ∧ st.1 20 y = nI (c 6 y))
def XC (st : mSt) (g : Nat) (n : Nat → Nat) (c : Nat → Nat → Nat) : Prop := (g = 5 ∧ X5 st n c) ∨ (g = 13 ∧ X13 st n c)
def MR (st : mSt) (n : Nat → Nat) (c : Nat → Nat → Nat) : Prop := st.1 55 0 = nI (n 0) ∧ st.1 59 0 = nI (n 1) ∧ st.1 62 0 = nI (n 2) ∧ (∀ d, d < n 0 → st.1 56 d = nI (c 0 d) ∧ st.1 57 d = nI (c 1 d) ∧ st.1 58 d = nI (c 2 d)) ∧ (∀ s, s < n 1 → st.1 60 s = nI (c 3 s) ∧ st.1 61 s = nI (c 4 s)) ∧ (∀ y, y < n 2 → st.1 63 y = nI (c 5 y) ∧ st.1 64 y = nI (c 6 y))
def CB (n : Nat → Nat) (c : Nat → Nat → Nat) : Prop := n 0 ≤ 6 ∧ n 1 ≤ 8 ∧ n 2 ≤ 8 ∧ (∀ d, d < n 0 → 1 ≤ c 0 d ∧ c 0 d ≤ 9 ∧ 1 ≤ c 1 d ∧ c 1 d ≤ 9 ∧ c 2 d ≤ 1) ∧ (∀ s, s < n 1 → 1 ≤ c 3 s ∧ c 3 s ≤ 9 ∧ c 4 s ≤ 2) ∧ (∀ y, y < n 2 → 1 ≤ c 5 y ∧ c 5 y ≤ 99 ∧ 1 ≤ c 6 y ∧ c 6 y ≤ 9)
def N21 (st : mSt) (v : Nat → Int32) (u : Nat → Nat) (yd : Nat) : Prop := st.1 21 0 = v 0 ∧ st.1 21 1 = v 1 ∧ st.1 21 2 = v 2 ∧ st.1 21 3 = nI yd ∧ st.1 21 4 = nI (u 3) ∧ st.1 21 5 = nI (u 4) ∧ st.1 21 6 = nI (u 5) ∧ (∀ d, d < 6 → st.1 22 d = nI (u (6 + d))) ∧ (∀ y, y < 8 → st.1 23 y = nI (u (12 + y)))
def N25 (st : mSt) (v : Nat → Int32) (u : Nat → Nat) (yd : Nat) : Prop := st.1 25 0 = v 0 ∧ st.1 25 1 = v 1 ∧ st.1 25 2 = v 2 ∧ st.1 25 3 = nI yd ∧ st.1 25 4 = nI (u 3) ∧ st.1 25 5 = nI (u 4) ∧ st.1 25 6 = nI (u 5) ∧ (∀ d, d < 6 → st.1 26 d = nI (u (6 + d))) ∧ (∀ y, y < 8 → st.1 27 y = nI (u (12 + y)))
def N28 (st : mSt) (v : Nat → Int32) (u : Nat → Nat) (yd : Nat) : Prop := st.1 28 0 = v 0 ∧ st.1 28 1 = v 1 ∧ st.1 28 2 = v 2 ∧ st.1 28 3 = nI yd ∧ st.1 28 4 = nI (u 3) ∧ st.1 28 5 = nI (u 4) ∧ st.1 28 6 = nI (u 5) ∧ (∀ d, d < 6 → st.1 29 d = nI (u (6 + d))) ∧ (∀ y, y < 8 → st.1 30 y = nI (u (12 + y)))
def NM0 (st : mSt) (v : Nat → Int32) (u : Nat → Nat) : Prop := (∀ j, j < 3 → st.1 65 (j) = v j) ∧ ∀ j, 3 ≤ j → j < 20 → st.1 65 (j) = nI (u j)
def NM1 (st : mSt) (v : Nat → Int32) (u : Nat → Nat) : Prop := (∀ j, j < 3 → st.1 65 (20 + j) = v j) ∧ ∀ j, 3 ≤ j → j < 20 → st.1 65 (20 + j) = nI (u j)
def NM2 (st : mSt) (v : Nat → Int32) (u : Nat → Nat) : Prop := (∀ j, j < 3 → st.1 65 (40 + j) = v j) ∧ ∀ j, 3 ≤ j → j < 20 → st.1 65 (40 + j) = nI (u j)
def NB (n : Nat → Nat) (c : Nat → Nat → Nat) (u : Nat → Nat) (yd : Nat) : Prop := (∀ j, 3 ≤ j → j < 12 → u j < 256) ∧ yd ≤ n 2 ∧ ∀ y, y < 8 → (y < yd → u (12 + y) = c 5 y) ∧ (y = yd → y < n 2 → u (12 + y) < c 5 y) ∧ (yd < y → u (12 + y) = 0)
theorem nI_in2 {x : Int32} {m : Nat} (hm : m < 2 ^ 31) (h : 0 ≤ x ∧ x < nI m) : ∃ k : Nat, k < m ∧ x = nI k := by
  obtain ⟨h0, h1⟩ := h
  obtain ⟨j, hj, rfl⟩ := nI_of (x := x) (Int32.not_lt.mpr h0)
  exact ⟨j, (nI_ltI hj hm).mp h1, rfl⟩
theorem nI_in3 {k m : Nat} (hm : m < 2 ^ 31) (h : k < m) : 0 ≤ nI k ∧ nI k < nI m := ⟨nI_pos' (by omega), nI_lt h hm⟩
theorem tbl_out {x : Int32} (N : Nat) (hN : N < 2 ^ 31) (h : ∀ k, k < N + 1 → x ≠ nI k) : x.toInt < 0 ∨ (N : Int) < x.toInt := by
  by_cases h0 : x.toInt < 0
  · exact Or.inl h0
  · by_cases h1 : (N : Int) < x.toInt
    · exact Or.inr h1
    · refine absurd ?_ (h x.toInt.toNat (by omega))
      apply Int32.toInt_inj.mp
      rw [nI_toInt (by omega)]
      omega
theorem XC5 {st : mSt} {n : Nat → Nat} {c : Nat → Nat → Nat} (h : XC st 5 n c) : X5 st n c := by
  rcases h with h | h
  · exact h.2
  · exact absurd h.1 (by decide)
theorem XC13 {st : mSt} {n : Nat → Nat} {c : Nat → Nat → Nat} (h : XC st 13 n c) : X13 st n c := by
  rcases h with h | h
  · exact absurd h.1 (by decide)
  · exact h.2
end
section
/-! BITS: what the machine's words do to numbers below 2^31 -/
theorem nI_toNat (n : Nat) : (nI n).toBitVec.toNat = n % 2 ^ 32 := by
  show (Int32.ofNat n).toBitVec.toNat = _
  rfl
theorem i32_ext {x y : Int32} (h : x.toBitVec.toNat = y.toBitVec.toNat) : x = y := by
  have h1 : x.toBitVec = y.toBitVec := BitVec.eq_of_toNat_eq h
  exact Int32.toBitVec_inj.mp h1
theorem nI_or (a b : Nat) : nI a ||| nI b = nI (a ||| b) := by
  apply i32_ext
  rw [Int32.toBitVec_or, BitVec.toNat_or, nI_toNat, nI_toNat, nI_toNat, Nat.or_mod_two_pow]
theorem nI_and (a b : Nat) : nI a &&& nI b = nI (a &&& b) := by
  apply i32_ext
  rw [Int32.toBitVec_and, BitVec.toNat_and, nI_toNat, nI_toNat, nI_toNat, Nat.and_mod_two_pow]
theorem nI_xor (a b : Nat) : nI a ^^^ nI b = nI (a ^^^ b) := by
  apply i32_ext
  rw [Int32.toBitVec_xor, BitVec.toNat_xor, nI_toNat, nI_toNat, nI_toNat, Nat.xor_mod_two_pow]
theorem nI_m1 : (-1 : Int32) = nI 4294967295 := by decide +kernel
theorem nI_one : (1 : Int32) = nI 1 := rfl
theorem nI_k31 : ∀ k, k < 32 → nI k &&& 31 = nI k := by decide +kernel
theorem nI_smod : ∀ k, k < 32 → ((nI k).toBitVec.smod 32).toNat = k := by decide +kernel
theorem nI_ush : ∀ k, k < 32 → (((nI k).toUInt32 &&& Int32.toUInt32 31).toBitVec % 32).toNat = k := by decide +kernel
theorem nI_shl {a k : Nat} (hk : k < 32) (h : a * 2 ^ k < 2 ^ 32) : nI a <<< (nI k &&& 31) = nI (a * 2 ^ k) := by
  rw [nI_k31 k hk]
  exact pk_shlN (nI k) k (nI_smod k hk) h
theorem nI_shl1 {k : Nat} (hk : k < 32) : (1 : Int32) <<< (nI k &&& 31) = nI (2 ^ k) := by
  rw [nI_one, nI_shl hk (by rw [Nat.one_mul]; exact Nat.pow_lt_pow_right (by decide) hk), Nat.one_mul]
theorem nI_shr {n k : Nat} (hk : k < 32) (h : n < 2 ^ 31) : nI n >>> (nI k &&& 31) = nI (n / 2 ^ k) := by
  rw [nI_k31 k hk]
  exact pk_shrN h (nI k) k (nI_smod k hk)
theorem nI_ushr {n k : Nat} (hk : k < 32) (h : n < 2 ^ 32) : ((nI n).toUInt32 >>> ((nI k).toUInt32 &&& Int32.toUInt32 31)).toInt32 = nI (n / 2 ^ k) := pk_ushrN h (nI k) k (nI_ush k hk)
theorem nI_and1 (n : Nat) (h : n < 2 ^ 32) : nI n &&& 1 = nI (n % 2) := by
  rw [pk_andN h (m := 1) 1 (by decide)]
theorem tb_mod (n k : Nat) : n / 2 ^ k % 2 = if n.testBit k = true then 1 else 0 := by
  rw [Nat.testBit_eq_decide_div_mod_eq]
  by_cases h : n / 2 ^ k % 2 = 1
  · simp [h]
  · have : n / 2 ^ k % 2 = 0 := by omega
    simp [this]
/-- a bit, shifted out and masked -/
theorem nI_bit {n k : Nat} (hk : k < 32) (h : n < 2 ^ 31) : (nI n >>> (nI k &&& 31)) &&& 1 = pI (n.testBit k = true) := by
  rw [nI_shr hk h, nI_and1 _ (Nat.lt_of_le_of_lt (Nat.div_le_self _ _) (by omega)), tb_mod]
  by_cases hb : n.testBit k = true
  · rw [if_pos hb, pI_t hb]; rfl
  · rw [if_neg hb, pI_f hb]; rfl
theorem nI_ubit {n k : Nat} (hk : k < 32) (h : n < 2 ^ 31) : (((nI n).toUInt32 >>> ((nI k).toUInt32 &&& Int32.toUInt32 31)).toInt32) &&& 1 = pI (n.testBit k = true) := by
  rw [nI_ushr hk (by omega), nI_and1 _ (Nat.lt_of_le_of_lt (Nat.div_le_self _ _) (by omega)), tb_mod]
  by_cases hb : n.testBit k = true
  · rw [if_pos hb, pI_t hb]; rfl
  · rw [if_neg hb, pI_f hb]; rfl
theorem bitP_nI {n k : Nat} (hk : k < 32) (h : n < 2 ^ 31) : bitP (nI n) (nI k) ↔ n.testBit k = true := by
  unfold bitP
  rw [nI_ubit hk h]
  constructor
  · rintro ⟨-, -, h3⟩
    exact pI_ne.mp h3
  · intro hb
    exact ⟨nI_pos' (by omega), by
      show nI k < nI 32
      exact nI_lt hk (by omega), pI_ne.mpr hb⟩
theorem tb_or (a b k : Nat) : (a ||| 2 ^ b).testBit k = true ↔ a.testBit k = true ∨ k = b := by
  rw [Nat.testBit_or, Nat.testBit_two_pow]
  simp only [Bool.or_eq_true, decide_eq_true_eq]
  constructor
  · rintro (h | h)
    · exact Or.inl h
    · exact Or.inr h.symm
  · rintro (h | h)
    · exact Or.inl h
    · exact Or.inr h.symm
theorem tb_clr (a b k : Nat) (hk : k < 32) : (a &&& (2 ^ b ^^^ 4294967295)).testBit k = true ↔ a.testBit k = true ∧ k ≠ b := by
  rw [Nat.testBit_and, Nat.testBit_xor, Nat.testBit_two_pow]
  have h1 : (4294967295 : Nat).testBit k = true := by
    have : ∀ k, k < 32 → (4294967295 : Nat).testBit k = true := by decide +kernel
    exact this k hk
  rw [h1]
  by_cases h : b = k
  · subst h
    simp
  · have h' : k ≠ b := fun e => h e.symm
    simp [h, h']
theorem or_lt {a b m : Nat} (ha : a < 2 ^ m) (hb : b < m) : a ||| 2 ^ b < 2 ^ m := Nat.or_lt_two_pow ha (Nat.pow_lt_pow_right (by decide) hb)
end
section
/-! WHAT THE CALLS ANSWER, in numbers; the plain calls of both sides -/
def dgP (n : Nat → Nat) (x : Int32) : Prop := 0 ≤ x ∧ x < nI (n 0)
def mayP (c : Nat → Nat → Nat) (u : Nat → Nat) (d s : Nat) : Prop := (c 4 s = 0 ∨ c 4 s = c 2 d + 1) ∧ (u 5).testBit s = false ∧ (u (6 + d)).testBit s = false
abbrev ok0 (n : Nat → Nat) (x : Int32) : Prop := 0 ≤ x ∧ x < nI (n 0)
abbrev ok1 (n : Nat → Nat) (x : Int32) : Prop := 0 ≤ x ∧ x < nI (n 1)
abbrev ok2 (n : Nat → Nat) (x : Int32) : Prop := 0 ≤ x ∧ x < nI (n 2)
def sp_digger (n : Nat → Nat) (c : Nat → Nat → Nat) (u : Nat → Nat) (x w : Int32) : Int32 := if ok0 n x then (if w = 0 then nI (c 0 x.toNatClampNeg) else if w = 1 then nI (c 1 x.toNatClampNeg) else if w = 2 then nI (c 2 x.toNatClampNeg) else if w = 3 then nI (u (6 + x.toNatClampNeg)) else -1) else -1
def sp_spade (n : Nat → Nat) (c : Nat → Nat → Nat) (u : Nat → Nat) (x w : Int32) : Int32 := if ok1 n x then (if w = 0 then nI (c 3 x.toNatClampNeg) else if w = 1 then nI (c 4 x.toNatClampNeg) else if w = 2 then pI ((u 5).testBit x.toNatClampNeg = true) else -1) else -1
def sp_yard (n : Nat → Nat) (c : Nat → Nat → Nat) (u : Nat → Nat) (x w : Int32) : Int32 := if ok2 n x then (if w = 0 then nI (c 5 x.toNatClampNeg) else if w = 1 then nI (c 6 x.toNatClampNeg) else if w = 2 then nI (u (12 + x.toNatClampNeg)) else -1) else -1
theorem ok_le {m : Nat} (hm : m < 2 ^ 31) {x : Int32} : (0 ≤ x ∧ x ≤ nI m - 1) ↔ (0 ≤ x ∧ x < nI m) := by
  have h1 : (nI m - 1).toInt = (m : Int) - 1 := by
    cases m with
    | zero => decide
    | succ k => rw [show nI (k + 1) - 1 = nI k from nI_pred k, nI_toInt (by omega)]; omega
  simp only [Int32.le_iff_toInt_le, Int32.lt_iff_toInt_lt, h1, nI_toInt hm]
  omega
set_option maxRecDepth 20000 in
/-- digger -/
theorem x_digger_5 (d : Nat) (n : Nat → Nat) (c : Nat → Nat → Nat) (v : Nat → Int32) (u : Nat → Nat) (yd : Nat) (x w : Int32) (st : mSt) (hcw : st.1 0 1 = nI 5) (hX : X5 st n c) (hB : CB n c) (hN : N21 st v u yd) : mMC mT (d + 3) 88 [.ref 0, .int x, .int w] st (some (.int (sp_digger n c u x w))) st := by
  refine mI_X9_digger (d := d + 2) (Nat.le_of_ble_eq_true rfl) (fun Q hq => ?_)
  show mW (mMC mT (d + 2)) (0, fun _ => 0) (mAtL P_X9_digger) (some .int) Q 0 [some (.ref 0), some (.int x), some (.int w)] [] st
  have hcr : (st.1 0 1).toNatClampNeg = 5 := by rw [hcw]; rfl
  obtain ⟨hn0, hn1, hn2, hxd, hxs, hxy⟩ := id hX
  obtain ⟨hb0, hb1, hb2, hbd, hbs, hby⟩ := id hB
  obtain ⟨hv0, hv1, hv2, hv3, hu3, hu4, hu5, hut, huo⟩ := id hN
  refine w_blk 1 (pc' := 1) (ls' := [some (.ref 0), some (.int x), some (.int w)]) (sk' := [.ref 0]) (st' := st) (fun _ h => h) ?_
  refine w_blk 1 (pc' := 4) (ls' := [some (.ref 0), some (.int x), some (.int w)]) (sk' := [.ref (Int32.toNatClampNeg (st.1 0 1))]) (st' := st) (fun _ h => h) ?_
  rw [hcr]
  refine w_blk 1 (pc' := 5) (ls' := [some (.ref 0), some (.int x), some (.int w)]) (sk' := [.int x, .ref 5]) (st' := st) (fun _ h => h) ?_
  refine w_callV (As := [.ref 5, .int x]) (rest := []) rfl rfl rfl (Nat.le_of_ble_eq_true rfl) (Nat.le_of_ble_eq_true rfl) (by first | exact Or.inl ⟨rfl, rfl⟩ | exact Or.inr ⟨rfl, rfl⟩) (c_hasDigger_5 (d + 1) x st) ?_
  rw [hn0]
  refine w_if_ne rfl (fun h1 => ?_) (fun h1 => ?_)
  · replace h1 := pI_ne.mp h1
    refine w_blk 1 (pc' := 14) (ls' := [some (.ref 0), some (.int x), some (.int w)]) (sk' := [.int w]) (st' := st) (fun _ h => h) ?_
    obtain ⟨k, hk, rfl⟩ := nI_in2 (by omega) h1
    by_cases hw0 : w = 0
    · subst hw0
      refine w_tblIn (t := 44) rfl (by decide) (by decide) rfl rfl ?_
      refine w_blk 1 (pc' := 45) (ls' := [some (.ref 0), some (.int (nI k)), some (.int 0)]) (sk' := [.ref 0]) (st' := st) (fun _ h => h) ?_
      refine w_blk 1 (pc' := 48) (ls' := [some (.ref 0), some (.int (nI k)), some (.int 0)]) (sk' := [.ref (Int32.toNatClampNeg (st.1 0 1))]) (st' := st) (fun _ h => h) ?_
      rw [hcr]
      refine w_blk 2 (pc' := 52) (ls' := [some (.ref 0), some (.int (nI k)), some (.int 0)]) (sk' := [.int (nI k), .ref 6]) (st' := st) (fun _ h => h) ?_
      refine w_callS (As := [.ref 6, .int (nI k)]) (rest := []) rfl rfl rfl (Nat.le_of_ble_eq_true rfl) (Nat.le_of_ble_eq_true rfl) (c_cellK (d + 1) 6 6 k st (by omega) (by decide) rfl) ?_
      rw [(hxd k hk).1]
      rw [show sp_digger n c u (nI k) 0 = (nI (c 0 k)) from by unfold sp_digger; rw [if_pos (nI_in3 (by omega) hk), if_pos rfl, nI_clamp (show k < 2 ^ 31 by omega)]] at hq
      exact w_iret rfl rfl rfl hq
    · by_cases hw1 : w = 1
      · subst hw1
        refine w_tblIn (t := 56) rfl (by decide) (by decide) rfl rfl ?_
        refine w_blk 1 (pc' := 57) (ls' := [some (.ref 0), some (.int (nI k)), some (.int 1)]) (sk' := [.ref 0]) (st' := st) (fun _ h => h) ?_
        refine w_blk 1 (pc' := 60) (ls' := [some (.ref 0), some (.int (nI k)), some (.int 1)]) (sk' := [.ref (Int32.toNatClampNeg (st.1 0 1))]) (st' := st) (fun _ h => h) ?_
        rw [hcr]
        refine w_blk 2 (pc' := 64) (ls' := [some (.ref 0), some (.int (nI k)), some (.int 1)]) (sk' := [.int (nI k), .ref 7]) (st' := st) (fun _ h => h) ?_
        refine w_callS (As := [.ref 7, .int (nI k)]) (rest := []) rfl rfl rfl (Nat.le_of_ble_eq_true rfl) (Nat.le_of_ble_eq_true rfl) (c_cellK (d + 1) 7 6 k st (by omega) (by decide) rfl) ?_
        rw [(hxd k hk).2.1]
        rw [show sp_digger n c u (nI k) 1 = (nI (c 1 k)) from by unfold sp_digger; rw [if_pos (nI_in3 (by omega) hk), if_neg (by decide), if_pos rfl, nI_clamp (show k < 2 ^ 31 by omega)]] at hq
        exact w_iret rfl rfl rfl hq
      · by_cases hw2 : w = 2
        · subst hw2
          refine w_tblIn (t := 68) rfl (by decide) (by decide) rfl rfl ?_
          refine w_blk 1 (pc' := 69) (ls' := [some (.ref 0), some (.int (nI k)), some (.int 2)]) (sk' := [.ref 0]) (st' := st) (fun _ h => h) ?_
          refine w_blk 1 (pc' := 72) (ls' := [some (.ref 0), some (.int (nI k)), some (.int 2)]) (sk' := [.ref (Int32.toNatClampNeg (st.1 0 1))]) (st' := st) (fun _ h => h) ?_
          rw [hcr]
          refine w_blk 2 (pc' := 76) (ls' := [some (.ref 0), some (.int (nI k)), some (.int 2)]) (sk' := [.int (nI k), .ref 8]) (st' := st) (fun _ h => h) ?_
          refine w_callS (As := [.ref 8, .int (nI k)]) (rest := []) rfl rfl rfl (Nat.le_of_ble_eq_true rfl) (Nat.le_of_ble_eq_true rfl) (c_cellK (d + 1) 8 6 k st (by omega) (by decide) rfl) ?_
          rw [(hxd k hk).2.2]
          rw [show sp_digger n c u (nI k) 2 = (nI (c 2 k)) from by unfold sp_digger; rw [if_pos (nI_in3 (by omega) hk), if_neg (by decide), if_neg (by decide), if_pos rfl, nI_clamp (show k < 2 ^ 31 by omega)]] at hq
          exact w_iret rfl rfl rfl hq
        · by_cases hw3 : w = 3
          · subst hw3
            refine w_tblIn (t := 80) rfl (by decide) (by decide) rfl rfl ?_
            refine w_blk 4 (pc' := 88) (ls' := [some (.ref 0), some (.int (nI k)), some (.int 3)]) (sk' := [.int (nI k), .ref 22]) (st' := st) (fun _ h => h) ?_
            refine w_callS (As := [.ref 22, .int (nI k)]) (rest := []) rfl rfl rfl (Nat.le_of_ble_eq_true rfl) (Nat.le_of_ble_eq_true rfl) (c_cellK (d + 1) 22 6 k st (by omega) (by decide) rfl) ?_
            rw [hut k (by omega)]
            rw [show sp_digger n c u (nI k) 3 = (nI (u (6 + k))) from by unfold sp_digger; rw [if_pos (nI_in3 (by omega) hk), if_neg (by decide), if_neg (by decide), if_neg (by decide), if_pos rfl, nI_clamp (show k < 2 ^ 31 by omega)]] at hq
            exact w_iret rfl rfl rfl hq
          · refine w_tblOut (t := 92) rfl (tbl_out 3 (by decide) (by intro k hk; rcases (show k = 0 ∨ k = 1 ∨ k = 2 ∨ k = 3 by omega) with rfl | rfl | rfl | rfl <;> assumption)) rfl ?_
            refine w_blk 1 (pc' := 93) (ls' := [some (.ref 0), some (.int (nI k)), some (.int w)]) (sk' := [.int (-1)]) (st' := st) (fun _ h => h) ?_
            rw [show (sp_digger n c u (nI k) w) = (-1) from by unfold sp_digger; rw [if_pos (nI_in3 (by omega) hk), if_neg hw0, if_neg hw1, if_neg hw2, if_neg hw3]] at hq
            exact w_iret rfl rfl rfl hq
  · replace h1 := pI_eq0.mp (Decidable.not_not.mp h1)
    refine w_blk 1 (pc' := 12) (ls' := [some (.ref 0), some (.int x), some (.int w)]) (sk' := [.int (-1)]) (st' := st) (fun _ h => h) ?_
    rw [show (sp_digger n c u x w) = (-1) from if_neg h1] at hq
    exact w_iret rfl rfl rfl hq
set_option maxRecDepth 20000 in
/-- digger -/
theorem x_digger_13 (d : Nat) (n : Nat → Nat) (c : Nat → Nat → Nat) (v : Nat → Int32) (u : Nat → Nat) (yd : Nat) (x w : Int32) (st : mSt) (hcw : st.1 0 1 = nI 13) (hX : X13 st n c) (hB : CB n c) (hN : N21 st v u yd) : mMC mT (d + 3) 88 [.ref 0, .int x, .int w] st (some (.int (sp_digger n c u x w))) st := by
  refine mI_X9_digger (d := d + 2) (Nat.le_of_ble_eq_true rfl) (fun Q hq => ?_)
  show mW (mMC mT (d + 2)) (0, fun _ => 0) (mAtL P_X9_digger) (some .int) Q 0 [some (.ref 0), some (.int x), some (.int w)] [] st
  have hcr : (st.1 0 1).toNatClampNeg = 13 := by rw [hcw]; rfl
  obtain ⟨hn0, hn1, hn2, hxd, hxs, hxy⟩ := id hX
  obtain ⟨hb0, hb1, hb2, hbd, hbs, hby⟩ := id hB
  obtain ⟨hv0, hv1, hv2, hv3, hu3, hu4, hu5, hut, huo⟩ := id hN
  refine w_blk 1 (pc' := 1) (ls' := [some (.ref 0), some (.int x), some (.int w)]) (sk' := [.ref 0]) (st' := st) (fun _ h => h) ?_
  refine w_blk 1 (pc' := 4) (ls' := [some (.ref 0), some (.int x), some (.int w)]) (sk' := [.ref (Int32.toNatClampNeg (st.1 0 1))]) (st' := st) (fun _ h => h) ?_
  rw [hcr]
  refine w_blk 1 (pc' := 5) (ls' := [some (.ref 0), some (.int x), some (.int w)]) (sk' := [.int x, .ref 13]) (st' := st) (fun _ h => h) ?_
  refine w_callV (As := [.ref 13, .int x]) (rest := []) rfl rfl rfl (Nat.le_of_ble_eq_true rfl) (Nat.le_of_ble_eq_true rfl) (by first | exact Or.inl ⟨rfl, rfl⟩ | exact Or.inr ⟨rfl, rfl⟩) (c_hasDigger_13 (d + 1) x st) ?_
  rw [hn0]
  refine w_if_ne rfl (fun h1 => ?_) (fun h1 => ?_)
  · replace h1 := pI_ne.mp h1
    refine w_blk 1 (pc' := 14) (ls' := [some (.ref 0), some (.int x), some (.int w)]) (sk' := [.int w]) (st' := st) (fun _ h => h) ?_
    obtain ⟨k, hk, rfl⟩ := nI_in2 (by omega) h1
    by_cases hw0 : w = 0
    · subst hw0
      refine w_tblIn (t := 44) rfl (by decide) (by decide) rfl rfl ?_
      refine w_blk 1 (pc' := 45) (ls' := [some (.ref 0), some (.int (nI k)), some (.int 0)]) (sk' := [.ref 0]) (st' := st) (fun _ h => h) ?_
      refine w_blk 1 (pc' := 48) (ls' := [some (.ref 0), some (.int (nI k)), some (.int 0)]) (sk' := [.ref (Int32.toNatClampNeg (st.1 0 1))]) (st' := st) (fun _ h => h) ?_
      rw [hcr]
      refine w_blk 2 (pc' := 52) (ls' := [some (.ref 0), some (.int (nI k)), some (.int 0)]) (sk' := [.int (nI k), .ref 14]) (st' := st) (fun _ h => h) ?_
      refine w_callS (As := [.ref 14, .int (nI k)]) (rest := []) rfl rfl rfl (Nat.le_of_ble_eq_true rfl) (Nat.le_of_ble_eq_true rfl) (c_cellK (d + 1) 14 6 k st (by omega) (by decide) rfl) ?_
      rw [(hxd k hk).1]
      rw [show sp_digger n c u (nI k) 0 = (nI (c 0 k)) from by unfold sp_digger; rw [if_pos (nI_in3 (by omega) hk), if_pos rfl, nI_clamp (show k < 2 ^ 31 by omega)]] at hq
      exact w_iret rfl rfl rfl hq
    · by_cases hw1 : w = 1
      · subst hw1
        refine w_tblIn (t := 56) rfl (by decide) (by decide) rfl rfl ?_
        refine w_blk 1 (pc' := 57) (ls' := [some (.ref 0), some (.int (nI k)), some (.int 1)]) (sk' := [.ref 0]) (st' := st) (fun _ h => h) ?_
        refine w_blk 1 (pc' := 60) (ls' := [some (.ref 0), some (.int (nI k)), some (.int 1)]) (sk' := [.ref (Int32.toNatClampNeg (st.1 0 1))]) (st' := st) (fun _ h => h) ?_
        rw [hcr]
        refine w_blk 2 (pc' := 64) (ls' := [some (.ref 0), some (.int (nI k)), some (.int 1)]) (sk' := [.int (nI k), .ref 15]) (st' := st) (fun _ h => h) ?_
        refine w_callS (As := [.ref 15, .int (nI k)]) (rest := []) rfl rfl rfl (Nat.le_of_ble_eq_true rfl) (Nat.le_of_ble_eq_true rfl) (c_cellK (d + 1) 15 6 k st (by omega) (by decide) rfl) ?_
        rw [(hxd k hk).2.1]
        rw [show sp_digger n c u (nI k) 1 = (nI (c 1 k)) from by unfold sp_digger; rw [if_pos (nI_in3 (by omega) hk), if_neg (by decide), if_pos rfl, nI_clamp (show k < 2 ^ 31 by omega)]] at hq
        exact w_iret rfl rfl rfl hq
      · by_cases hw2 : w = 2
        · subst hw2
          refine w_tblIn (t := 68) rfl (by decide) (by decide) rfl rfl ?_
          refine w_blk 1 (pc' := 69) (ls' := [some (.ref 0), some (.int (nI k)), some (.int 2)]) (sk' := [.ref 0]) (st' := st) (fun _ h => h) ?_
          refine w_blk 1 (pc' := 72) (ls' := [some (.ref 0), some (.int (nI k)), some (.int 2)]) (sk' := [.ref (Int32.toNatClampNeg (st.1 0 1))]) (st' := st) (fun _ h => h) ?_
          rw [hcr]
          refine w_blk 2 (pc' := 76) (ls' := [some (.ref 0), some (.int (nI k)), some (.int 2)]) (sk' := [.int (nI k), .ref 16]) (st' := st) (fun _ h => h) ?_
          refine w_callS (As := [.ref 16, .int (nI k)]) (rest := []) rfl rfl rfl (Nat.le_of_ble_eq_true rfl) (Nat.le_of_ble_eq_true rfl) (c_cellK (d + 1) 16 6 k st (by omega) (by decide) rfl) ?_
          rw [(hxd k hk).2.2]
          rw [show sp_digger n c u (nI k) 2 = (nI (c 2 k)) from by unfold sp_digger; rw [if_pos (nI_in3 (by omega) hk), if_neg (by decide), if_neg (by decide), if_pos rfl, nI_clamp (show k < 2 ^ 31 by omega)]] at hq
          exact w_iret rfl rfl rfl hq
        · by_cases hw3 : w = 3
          · subst hw3
            refine w_tblIn (t := 80) rfl (by decide) (by decide) rfl rfl ?_
            refine w_blk 4 (pc' := 88) (ls' := [some (.ref 0), some (.int (nI k)), some (.int 3)]) (sk' := [.int (nI k), .ref 22]) (st' := st) (fun _ h => h) ?_
            refine w_callS (As := [.ref 22, .int (nI k)]) (rest := []) rfl rfl rfl (Nat.le_of_ble_eq_true rfl) (Nat.le_of_ble_eq_true rfl) (c_cellK (d + 1) 22 6 k st (by omega) (by decide) rfl) ?_
            rw [hut k (by omega)]
            rw [show sp_digger n c u (nI k) 3 = (nI (u (6 + k))) from by unfold sp_digger; rw [if_pos (nI_in3 (by omega) hk), if_neg (by decide), if_neg (by decide), if_neg (by decide), if_pos rfl, nI_clamp (show k < 2 ^ 31 by omega)]] at hq
            exact w_iret rfl rfl rfl hq
          · refine w_tblOut (t := 92) rfl (tbl_out 3 (by decide) (by intro k hk; rcases (show k = 0 ∨ k = 1 ∨ k = 2 ∨ k = 3 by omega) with rfl | rfl | rfl | rfl <;> assumption)) rfl ?_
            refine w_blk 1 (pc' := 93) (ls' := [some (.ref 0), some (.int (nI k)), some (.int w)]) (sk' := [.int (-1)]) (st' := st) (fun _ h => h) ?_
            rw [show (sp_digger n c u (nI k) w) = (-1) from by unfold sp_digger; rw [if_pos (nI_in3 (by omega) hk), if_neg hw0, if_neg hw1, if_neg hw2, if_neg hw3]] at hq
            exact w_iret rfl rfl rfl hq
  · replace h1 := pI_eq0.mp (Decidable.not_not.mp h1)
    refine w_blk 1 (pc' := 12) (ls' := [some (.ref 0), some (.int x), some (.int w)]) (sk' := [.int (-1)]) (st' := st) (fun _ h => h) ?_
    rw [show (sp_digger n c u x w) = (-1) from if_neg h1] at hq
    exact w_iret rfl rfl rfl hq
set_option maxRecDepth 20000 in
/-- spade -/
theorem x_spade_5 (d : Nat) (n : Nat → Nat) (c : Nat → Nat → Nat) (v : Nat → Int32) (u : Nat → Nat) (yd : Nat) (x w : Int32) (st : mSt) (hcw : st.1 0 1 = nI 5) (hX : X5 st n c) (hB : CB n c) (hN : N21 st v u yd) (hU : u 5 < 256) : mMC mT (d + 3) 89 [.ref 0, .int x, .int w] st (some (.int (sp_spade n c u x w))) st := by
  refine mI_X9_spade (d := d + 2) (Nat.le_of_ble_eq_true rfl) (fun Q hq => ?_)
  show mW (mMC mT (d + 2)) (0, fun _ => 0) (mAtL P_X9_spade) (some .int) Q 0 [some (.ref 0), some (.int x), some (.int w)] [] st
  have hcr : (st.1 0 1).toNatClampNeg = 5 := by rw [hcw]; rfl
  obtain ⟨hn0, hn1, hn2, hxd, hxs, hxy⟩ := id hX
  obtain ⟨hb0, hb1, hb2, hbd, hbs, hby⟩ := id hB
  obtain ⟨hv0, hv1, hv2, hv3, hu3, hu4, hu5, hut, huo⟩ := id hN
  refine w_blk 1 (pc' := 1) (ls' := [some (.ref 0), some (.int x), some (.int w)]) (sk' := [.ref 0]) (st' := st) (fun _ h => h) ?_
  refine w_blk 1 (pc' := 4) (ls' := [some (.ref 0), some (.int x), some (.int w)]) (sk' := [.ref (Int32.toNatClampNeg (st.1 0 1))]) (st' := st) (fun _ h => h) ?_
  rw [hcr]
  refine w_blk 1 (pc' := 5) (ls' := [some (.ref 0), some (.int x), some (.int w)]) (sk' := [.int x, .ref 5]) (st' := st) (fun _ h => h) ?_
  refine w_callV (As := [.ref 5, .int x]) (rest := []) rfl rfl rfl (Nat.le_of_ble_eq_true rfl) (Nat.le_of_ble_eq_true rfl) (by first | exact Or.inl ⟨rfl, rfl⟩ | exact Or.inr ⟨rfl, rfl⟩) (c_hasSpade_5 (d + 1) x st) ?_
  rw [hn1]
  refine w_if_ne rfl (fun h1 => ?_) (fun h1 => ?_)
  · replace h1 := pI_ne.mp h1
    refine w_blk 1 (pc' := 14) (ls' := [some (.ref 0), some (.int x), some (.int w)]) (sk' := [.int w]) (st' := st) (fun _ h => h) ?_
    obtain ⟨k, hk, rfl⟩ := nI_in2 (by omega) h1
    by_cases hw0 : w = 0
    · subst hw0
      refine w_tblIn (t := 40) rfl (by decide) (by decide) rfl rfl ?_
      refine w_blk 1 (pc' := 41) (ls' := [some (.ref 0), some (.int (nI k)), some (.int 0)]) (sk' := [.ref 0]) (st' := st) (fun _ h => h) ?_
      refine w_blk 1 (pc' := 44) (ls' := [some (.ref 0), some (.int (nI k)), some (.int 0)]) (sk' := [.ref (Int32.toNatClampNeg (st.1 0 1))]) (st' := st) (fun _ h => h) ?_
      rw [hcr]
      refine w_blk 2 (pc' := 48) (ls' := [some (.ref 0), some (.int (nI k)), some (.int 0)]) (sk' := [.int (nI k), .ref 9]) (st' := st) (fun _ h => h) ?_
      refine w_callS (As := [.ref 9, .int (nI k)]) (rest := []) rfl rfl rfl (Nat.le_of_ble_eq_true rfl) (Nat.le_of_ble_eq_true rfl) (c_cellK (d + 1) 9 8 k st (by omega) (by decide) rfl) ?_
      rw [(hxs k hk).1]
      rw [show sp_spade n c u (nI k) 0 = (nI (c 3 k)) from by unfold sp_spade; rw [if_pos (nI_in3 (by omega) hk), if_pos rfl, nI_clamp (show k < 2 ^ 31 by omega)]] at hq
      exact w_iret rfl rfl rfl hq
    · by_cases hw1 : w = 1
      · subst hw1
        refine w_tblIn (t := 52) rfl (by decide) (by decide) rfl rfl ?_
        refine w_blk 1 (pc' := 53) (ls' := [some (.ref 0), some (.int (nI k)), some (.int 1)]) (sk' := [.ref 0]) (st' := st) (fun _ h => h) ?_
        refine w_blk 1 (pc' := 56) (ls' := [some (.ref 0), some (.int (nI k)), some (.int 1)]) (sk' := [.ref (Int32.toNatClampNeg (st.1 0 1))]) (st' := st) (fun _ h => h) ?_
        rw [hcr]
        refine w_blk 2 (pc' := 60) (ls' := [some (.ref 0), some (.int (nI k)), some (.int 1)]) (sk' := [.int (nI k), .ref 10]) (st' := st) (fun _ h => h) ?_
        refine w_callS (As := [.ref 10, .int (nI k)]) (rest := []) rfl rfl rfl (Nat.le_of_ble_eq_true rfl) (Nat.le_of_ble_eq_true rfl) (c_cellK (d + 1) 10 8 k st (by omega) (by decide) rfl) ?_
        rw [(hxs k hk).2]
        rw [show sp_spade n c u (nI k) 1 = (nI (c 4 k)) from by unfold sp_spade; rw [if_pos (nI_in3 (by omega) hk), if_neg (by decide), if_pos rfl, nI_clamp (show k < 2 ^ 31 by omega)]] at hq
        exact w_iret rfl rfl rfl hq
      · by_cases hw2 : w = 2
        · subst hw2
          refine w_tblIn (t := 64) rfl (by decide) (by decide) rfl rfl ?_
          refine w_blk 4 (pc' := 72) (ls' := [some (.ref 0), some (.int (nI k)), some (.int 2)]) (sk' := [.int (nI k), .int (st.1 21 6)]) (st' := st) (fun _ h => h) ?_
          refine w_callS (As := [.int (st.1 21 6), .int (nI k)]) (rest := []) rfl rfl rfl (Nat.le_of_ble_eq_true rfl) (Nat.le_of_ble_eq_true rfl) (c_hasBit (d + 1) (st.1 21 6) (nI k) st) ?_
          refine w_callS (As := [.int (pI (bitP (st.1 21 6) (nI k)))]) (rest := []) rfl rfl rfl (Nat.le_of_ble_eq_true rfl) (Nat.le_of_ble_eq_true rfl) (c_asNumberP (d + 1) _ st) ?_
          rw [show sp_spade n c u (nI k) 2 = (pI (bitP (st.1 21 6) (nI k))) from by unfold sp_spade; rw [if_pos (nI_in3 (by omega) hk), if_neg (by decide), if_neg (by decide), if_pos rfl, nI_clamp (show k < 2 ^ 31 by omega), hu5]; exact (pI_cong (bitP_nI (by omega) (by have := hU; omega))).symm] at hq
          exact w_iret rfl rfl rfl hq
        · refine w_tblOut (t := 79) rfl (tbl_out 2 (by decide) (by intro k hk; rcases (show k = 0 ∨ k = 1 ∨ k = 2 by omega) with rfl | rfl | rfl <;> assumption)) rfl ?_
          refine w_blk 1 (pc' := 80) (ls' := [some (.ref 0), some (.int (nI k)), some (.int w)]) (sk' := [.int (-1)]) (st' := st) (fun _ h => h) ?_
          rw [show (sp_spade n c u (nI k) w) = (-1) from by unfold sp_spade; rw [if_pos (nI_in3 (by omega) hk), if_neg hw0, if_neg hw1, if_neg hw2]] at hq
          exact w_iret rfl rfl rfl hq
  · replace h1 := pI_eq0.mp (Decidable.not_not.mp h1)
    refine w_blk 1 (pc' := 12) (ls' := [some (.ref 0), some (.int x), some (.int w)]) (sk' := [.int (-1)]) (st' := st) (fun _ h => h) ?_
    rw [show (sp_spade n c u x w) = (-1) from if_neg h1] at hq
    exact w_iret rfl rfl rfl hq
set_option maxRecDepth 20000 in
/-- spade -/
theorem x_spade_13 (d : Nat) (n : Nat → Nat) (c : Nat → Nat → Nat) (v : Nat → Int32) (u : Nat → Nat) (yd : Nat) (x w : Int32) (st : mSt) (hcw : st.1 0 1 = nI 13) (hX : X13 st n c) (hB : CB n c) (hN : N21 st v u yd) (hU : u 5 < 256) : mMC mT (d + 3) 89 [.ref 0, .int x, .int w] st (some (.int (sp_spade n c u x w))) st := by
  refine mI_X9_spade (d := d + 2) (Nat.le_of_ble_eq_true rfl) (fun Q hq => ?_)
  show mW (mMC mT (d + 2)) (0, fun _ => 0) (mAtL P_X9_spade) (some .int) Q 0 [some (.ref 0), some (.int x), some (.int w)] [] st
  have hcr : (st.1 0 1).toNatClampNeg = 13 := by rw [hcw]; rfl
  obtain ⟨hn0, hn1, hn2, hxd, hxs, hxy⟩ := id hX
  obtain ⟨hb0, hb1, hb2, hbd, hbs, hby⟩ := id hB
  obtain ⟨hv0, hv1, hv2, hv3, hu3, hu4, hu5, hut, huo⟩ := id hN
  refine w_blk 1 (pc' := 1) (ls' := [some (.ref 0), some (.int x), some (.int w)]) (sk' := [.ref 0]) (st' := st) (fun _ h => h) ?_
  refine w_blk 1 (pc' := 4) (ls' := [some (.ref 0), some (.int x), some (.int w)]) (sk' := [.ref (Int32.toNatClampNeg (st.1 0 1))]) (st' := st) (fun _ h => h) ?_
  rw [hcr]
  refine w_blk 1 (pc' := 5) (ls' := [some (.ref 0), some (.int x), some (.int w)]) (sk' := [.int x, .ref 13]) (st' := st) (fun _ h => h) ?_
  refine w_callV (As := [.ref 13, .int x]) (rest := []) rfl rfl rfl (Nat.le_of_ble_eq_true rfl) (Nat.le_of_ble_eq_true rfl) (by first | exact Or.inl ⟨rfl, rfl⟩ | exact Or.inr ⟨rfl, rfl⟩) (c_hasSpade_13 (d + 1) x st) ?_
  rw [hn1]
  refine w_if_ne rfl (fun h1 => ?_) (fun h1 => ?_)
  · replace h1 := pI_ne.mp h1
    refine w_blk 1 (pc' := 14) (ls' := [some (.ref 0), some (.int x), some (.int w)]) (sk' := [.int w]) (st' := st) (fun _ h => h) ?_
    obtain ⟨k, hk, rfl⟩ := nI_in2 (by omega) h1
    by_cases hw0 : w = 0
    · subst hw0
      refine w_tblIn (t := 40) rfl (by decide) (by decide) rfl rfl ?_
      refine w_blk 1 (pc' := 41) (ls' := [some (.ref 0), some (.int (nI k)), some (.int 0)]) (sk' := [.ref 0]) (st' := st) (fun _ h => h) ?_
      refine w_blk 1 (pc' := 44) (ls' := [some (.ref 0), some (.int (nI k)), some (.int 0)]) (sk' := [.ref (Int32.toNatClampNeg (st.1 0 1))]) (st' := st) (fun _ h => h) ?_
      rw [hcr]
      refine w_blk 2 (pc' := 48) (ls' := [some (.ref 0), some (.int (nI k)), some (.int 0)]) (sk' := [.int (nI k), .ref 17]) (st' := st) (fun _ h => h) ?_
      refine w_callS (As := [.ref 17, .int (nI k)]) (rest := []) rfl rfl rfl (Nat.le_of_ble_eq_true rfl) (Nat.le_of_ble_eq_true rfl) (c_cellK (d + 1) 17 8 k st (by omega) (by decide) rfl) ?_
      rw [(hxs k hk).1]
      rw [show sp_spade n c u (nI k) 0 = (nI (c 3 k)) from by unfold sp_spade; rw [if_pos (nI_in3 (by omega) hk), if_pos rfl, nI_clamp (show k < 2 ^ 31 by omega)]] at hq
      exact w_iret rfl rfl rfl hq
    · by_cases hw1 : w = 1
      · subst hw1
        refine w_tblIn (t := 52) rfl (by decide) (by decide) rfl rfl ?_
        refine w_blk 1 (pc' := 53) (ls' := [some (.ref 0), some (.int (nI k)), some (.int 1)]) (sk' := [.ref 0]) (st' := st) (fun _ h => h) ?_
        refine w_blk 1 (pc' := 56) (ls' := [some (.ref 0), some (.int (nI k)), some (.int 1)]) (sk' := [.ref (Int32.toNatClampNeg (st.1 0 1))]) (st' := st) (fun _ h => h) ?_
        rw [hcr]
        refine w_blk 2 (pc' := 60) (ls' := [some (.ref 0), some (.int (nI k)), some (.int 1)]) (sk' := [.int (nI k), .ref 18]) (st' := st) (fun _ h => h) ?_
        refine w_callS (As := [.ref 18, .int (nI k)]) (rest := []) rfl rfl rfl (Nat.le_of_ble_eq_true rfl) (Nat.le_of_ble_eq_true rfl) (c_cellK (d + 1) 18 8 k st (by omega) (by decide) rfl) ?_
        rw [(hxs k hk).2]
        rw [show sp_spade n c u (nI k) 1 = (nI (c 4 k)) from by unfold sp_spade; rw [if_pos (nI_in3 (by omega) hk), if_neg (by decide), if_pos rfl, nI_clamp (show k < 2 ^ 31 by omega)]] at hq
        exact w_iret rfl rfl rfl hq
      · by_cases hw2 : w = 2
        · subst hw2
          refine w_tblIn (t := 64) rfl (by decide) (by decide) rfl rfl ?_
          refine w_blk 4 (pc' := 72) (ls' := [some (.ref 0), some (.int (nI k)), some (.int 2)]) (sk' := [.int (nI k), .int (st.1 21 6)]) (st' := st) (fun _ h => h) ?_
          refine w_callS (As := [.int (st.1 21 6), .int (nI k)]) (rest := []) rfl rfl rfl (Nat.le_of_ble_eq_true rfl) (Nat.le_of_ble_eq_true rfl) (c_hasBit (d + 1) (st.1 21 6) (nI k) st) ?_
          refine w_callS (As := [.int (pI (bitP (st.1 21 6) (nI k)))]) (rest := []) rfl rfl rfl (Nat.le_of_ble_eq_true rfl) (Nat.le_of_ble_eq_true rfl) (c_asNumberP (d + 1) _ st) ?_
          rw [show sp_spade n c u (nI k) 2 = (pI (bitP (st.1 21 6) (nI k))) from by unfold sp_spade; rw [if_pos (nI_in3 (by omega) hk), if_neg (by decide), if_neg (by decide), if_pos rfl, nI_clamp (show k < 2 ^ 31 by omega), hu5]; exact (pI_cong (bitP_nI (by omega) (by have := hU; omega))).symm] at hq
          exact w_iret rfl rfl rfl hq
        · refine w_tblOut (t := 79) rfl (tbl_out 2 (by decide) (by intro k hk; rcases (show k = 0 ∨ k = 1 ∨ k = 2 by omega) with rfl | rfl | rfl <;> assumption)) rfl ?_
          refine w_blk 1 (pc' := 80) (ls' := [some (.ref 0), some (.int (nI k)), some (.int w)]) (sk' := [.int (-1)]) (st' := st) (fun _ h => h) ?_
          rw [show (sp_spade n c u (nI k) w) = (-1) from by unfold sp_spade; rw [if_pos (nI_in3 (by omega) hk), if_neg hw0, if_neg hw1, if_neg hw2]] at hq
          exact w_iret rfl rfl rfl hq
  · replace h1 := pI_eq0.mp (Decidable.not_not.mp h1)
    refine w_blk 1 (pc' := 12) (ls' := [some (.ref 0), some (.int x), some (.int w)]) (sk' := [.int (-1)]) (st' := st) (fun _ h => h) ?_
    rw [show (sp_spade n c u x w) = (-1) from if_neg h1] at hq
    exact w_iret rfl rfl rfl hq
set_option maxRecDepth 20000 in
/-- yard -/
theorem x_yard_5 (d : Nat) (n : Nat → Nat) (c : Nat → Nat → Nat) (v : Nat → Int32) (u : Nat → Nat) (yd : Nat) (x w : Int32) (st : mSt) (hcw : st.1 0 1 = nI 5) (hX : X5 st n c) (hB : CB n c) (hN : N21 st v u yd) : mMC mT (d + 3) 90 [.ref 0, .int x, .int w] st (some (.int (sp_yard n c u x w))) st := by
  refine mI_X9_yard (d := d + 2) (Nat.le_of_ble_eq_true rfl) (fun Q hq => ?_)
  show mW (mMC mT (d + 2)) (0, fun _ => 0) (mAtL P_X9_yard) (some .int) Q 0 [some (.ref 0), some (.int x), some (.int w)] [] st
  have hcr : (st.1 0 1).toNatClampNeg = 5 := by rw [hcw]; rfl
  obtain ⟨hn0, hn1, hn2, hxd, hxs, hxy⟩ := id hX
  obtain ⟨hb0, hb1, hb2, hbd, hbs, hby⟩ := id hB
  obtain ⟨hv0, hv1, hv2, hv3, hu3, hu4, hu5, hut, huo⟩ := id hN
  refine w_blk 1 (pc' := 1) (ls' := [some (.ref 0), some (.int x), some (.int w)]) (sk' := [.ref 0]) (st' := st) (fun _ h => h) ?_
  refine w_blk 1 (pc' := 4) (ls' := [some (.ref 0), some (.int x), some (.int w)]) (sk' := [.ref (Int32.toNatClampNeg (st.1 0 1))]) (st' := st) (fun _ h => h) ?_
  rw [hcr]
  refine w_blk 1 (pc' := 5) (ls' := [some (.ref 0), some (.int x), some (.int w)]) (sk' := [.int x, .ref 5]) (st' := st) (fun _ h => h) ?_
  refine w_callV (As := [.ref 5, .int x]) (rest := []) rfl rfl rfl (Nat.le_of_ble_eq_true rfl) (Nat.le_of_ble_eq_true rfl) (by first | exact Or.inl ⟨rfl, rfl⟩ | exact Or.inr ⟨rfl, rfl⟩) (c_hasYard_5 (d + 1) x st) ?_
  rw [hn2]
  refine w_if_ne rfl (fun h1 => ?_) (fun h1 => ?_)
  · replace h1 := pI_ne.mp h1
    refine w_blk 1 (pc' := 14) (ls' := [some (.ref 0), some (.int x), some (.int w)]) (sk' := [.int w]) (st' := st) (fun _ h => h) ?_
    obtain ⟨k, hk, rfl⟩ := nI_in2 (by omega) h1
    by_cases hw0 : w = 0
    · subst hw0
      refine w_tblIn (t := 40) rfl (by decide) (by decide) rfl rfl ?_
      refine w_blk 1 (pc' := 41) (ls' := [some (.ref 0), some (.int (nI k)), some (.int 0)]) (sk' := [.ref 0]) (st' := st) (fun _ h => h) ?_
      refine w_blk 1 (pc' := 44) (ls' := [some (.ref 0), some (.int (nI k)), some (.int 0)]) (sk' := [.ref (Int32.toNatClampNeg (st.1 0 1))]) (st' := st) (fun _ h => h) ?_
      rw [hcr]
      refine w_blk 2 (pc' := 48) (ls' := [some (.ref 0), some (.int (nI k)), some (.int 0)]) (sk' := [.int (nI k), .ref 11]) (st' := st) (fun _ h => h) ?_
      refine w_callS (As := [.ref 11, .int (nI k)]) (rest := []) rfl rfl rfl (Nat.le_of_ble_eq_true rfl) (Nat.le_of_ble_eq_true rfl) (c_cellK (d + 1) 11 8 k st (by omega) (by decide) rfl) ?_
      rw [(hxy k hk).1]
      rw [show sp_yard n c u (nI k) 0 = (nI (c 5 k)) from by unfold sp_yard; rw [if_pos (nI_in3 (by omega) hk), if_pos rfl, nI_clamp (show k < 2 ^ 31 by omega)]] at hq
      exact w_iret rfl rfl rfl hq
    · by_cases hw1 : w = 1
      · subst hw1
        refine w_tblIn (t := 52) rfl (by decide) (by decide) rfl rfl ?_
        refine w_blk 1 (pc' := 53) (ls' := [some (.ref 0), some (.int (nI k)), some (.int 1)]) (sk' := [.ref 0]) (st' := st) (fun _ h => h) ?_
        refine w_blk 1 (pc' := 56) (ls' := [some (.ref 0), some (.int (nI k)), some (.int 1)]) (sk' := [.ref (Int32.toNatClampNeg (st.1 0 1))]) (st' := st) (fun _ h => h) ?_
        rw [hcr]
        refine w_blk 2 (pc' := 60) (ls' := [some (.ref 0), some (.int (nI k)), some (.int 1)]) (sk' := [.int (nI k), .ref 12]) (st' := st) (fun _ h => h) ?_
        refine w_callS (As := [.ref 12, .int (nI k)]) (rest := []) rfl rfl rfl (Nat.le_of_ble_eq_true rfl) (Nat.le_of_ble_eq_true rfl) (c_cellK (d + 1) 12 8 k st (by omega) (by decide) rfl) ?_
        rw [(hxy k hk).2]
        rw [show sp_yard n c u (nI k) 1 = (nI (c 6 k)) from by unfold sp_yard; rw [if_pos (nI_in3 (by omega) hk), if_neg (by decide), if_pos rfl, nI_clamp (show k < 2 ^ 31 by omega)]] at hq
        exact w_iret rfl rfl rfl hq
      · by_cases hw2 : w = 2
        · subst hw2
          refine w_tblIn (t := 64) rfl (by decide) (by decide) rfl rfl ?_
          refine w_blk 4 (pc' := 72) (ls' := [some (.ref 0), some (.int (nI k)), some (.int 2)]) (sk' := [.int (nI k), .ref 23]) (st' := st) (fun _ h => h) ?_
          refine w_callS (As := [.ref 23, .int (nI k)]) (rest := []) rfl rfl rfl (Nat.le_of_ble_eq_true rfl) (Nat.le_of_ble_eq_true rfl) (c_cellK (d + 1) 23 8 k st (by omega) (by decide) rfl) ?_
          rw [huo k (by omega)]
          rw [show sp_yard n c u (nI k) 2 = (nI (u (12 + k))) from by unfold sp_yard; rw [if_pos (nI_in3 (by omega) hk), if_neg (by decide), if_neg (by decide), if_pos rfl, nI_clamp (show k < 2 ^ 31 by omega)]] at hq
          exact w_iret rfl rfl rfl hq
        · refine w_tblOut (t := 76) rfl (tbl_out 2 (by decide) (by intro k hk; rcases (show k = 0 ∨ k = 1 ∨ k = 2 by omega) with rfl | rfl | rfl <;> assumption)) rfl ?_
          refine w_blk 1 (pc' := 77) (ls' := [some (.ref 0), some (.int (nI k)), some (.int w)]) (sk' := [.int (-1)]) (st' := st) (fun _ h => h) ?_
          rw [show (sp_yard n c u (nI k) w) = (-1) from by unfold sp_yard; rw [if_pos (nI_in3 (by omega) hk), if_neg hw0, if_neg hw1, if_neg hw2]] at hq
          exact w_iret rfl rfl rfl hq
  · replace h1 := pI_eq0.mp (Decidable.not_not.mp h1)
    refine w_blk 1 (pc' := 12) (ls' := [some (.ref 0), some (.int x), some (.int w)]) (sk' := [.int (-1)]) (st' := st) (fun _ h => h) ?_
    rw [show (sp_yard n c u x w) = (-1) from if_neg h1] at hq
    exact w_iret rfl rfl rfl hq
set_option maxRecDepth 20000 in
/-- yard -/
theorem x_yard_13 (d : Nat) (n : Nat → Nat) (c : Nat → Nat → Nat) (v : Nat → Int32) (u : Nat → Nat) (yd : Nat) (x w : Int32) (st : mSt) (hcw : st.1 0 1 = nI 13) (hX : X13 st n c) (hB : CB n c) (hN : N21 st v u yd) : mMC mT (d + 3) 90 [.ref 0, .int x, .int w] st (some (.int (sp_yard n c u x w))) st := by
  refine mI_X9_yard (d := d + 2) (Nat.le_of_ble_eq_true rfl) (fun Q hq => ?_)
  show mW (mMC mT (d + 2)) (0, fun _ => 0) (mAtL P_X9_yard) (some .int) Q 0 [some (.ref 0), some (.int x), some (.int w)] [] st
  have hcr : (st.1 0 1).toNatClampNeg = 13 := by rw [hcw]; rfl
  obtain ⟨hn0, hn1, hn2, hxd, hxs, hxy⟩ := id hX
  obtain ⟨hb0, hb1, hb2, hbd, hbs, hby⟩ := id hB
  obtain ⟨hv0, hv1, hv2, hv3, hu3, hu4, hu5, hut, huo⟩ := id hN
  refine w_blk 1 (pc' := 1) (ls' := [some (.ref 0), some (.int x), some (.int w)]) (sk' := [.ref 0]) (st' := st) (fun _ h => h) ?_
  refine w_blk 1 (pc' := 4) (ls' := [some (.ref 0), some (.int x), some (.int w)]) (sk' := [.ref (Int32.toNatClampNeg (st.1 0 1))]) (st' := st) (fun _ h => h) ?_
  rw [hcr]
  refine w_blk 1 (pc' := 5) (ls' := [some (.ref 0), some (.int x), some (.int w)]) (sk' := [.int x, .ref 13]) (st' := st) (fun _ h => h) ?_
  refine w_callV (As := [.ref 13, .int x]) (rest := []) rfl rfl rfl (Nat.le_of_ble_eq_true rfl) (Nat.le_of_ble_eq_true rfl) (by first | exact Or.inl ⟨rfl, rfl⟩ | exact Or.inr ⟨rfl, rfl⟩) (c_hasYard_13 (d + 1) x st) ?_
  rw [hn2]
  refine w_if_ne rfl (fun h1 => ?_) (fun h1 => ?_)
  · replace h1 := pI_ne.mp h1
    refine w_blk 1 (pc' := 14) (ls' := [some (.ref 0), some (.int x), some (.int w)]) (sk' := [.int w]) (st' := st) (fun _ h => h) ?_
    obtain ⟨k, hk, rfl⟩ := nI_in2 (by omega) h1
    by_cases hw0 : w = 0
    · subst hw0
      refine w_tblIn (t := 40) rfl (by decide) (by decide) rfl rfl ?_
      refine w_blk 1 (pc' := 41) (ls' := [some (.ref 0), some (.int (nI k)), some (.int 0)]) (sk' := [.ref 0]) (st' := st) (fun _ h => h) ?_
      refine w_blk 1 (pc' := 44) (ls' := [some (.ref 0), some (.int (nI k)), some (.int 0)]) (sk' := [.ref (Int32.toNatClampNeg (st.1 0 1))]) (st' := st) (fun _ h => h) ?_
      rw [hcr]
      refine w_blk 2 (pc' := 48) (ls' := [some (.ref 0), some (.int (nI k)), some (.int 0)]) (sk' := [.int (nI k), .ref 19]) (st' := st) (fun _ h => h) ?_
      refine w_callS (As := [.ref 19, .int (nI k)]) (rest := []) rfl rfl rfl (Nat.le_of_ble_eq_true rfl) (Nat.le_of_ble_eq_true rfl) (c_cellK (d + 1) 19 8 k st (by omega) (by decide) rfl) ?_
      rw [(hxy k hk).1]
      rw [show sp_yard n c u (nI k) 0 = (nI (c 5 k)) from by unfold sp_yard; rw [if_pos (nI_in3 (by omega) hk), if_pos rfl, nI_clamp (show k < 2 ^ 31 by omega)]] at hq
      exact w_iret rfl rfl rfl hq
    · by_cases hw1 : w = 1
      · subst hw1
        refine w_tblIn (t := 52) rfl (by decide) (by decide) rfl rfl ?_
        refine w_blk 1 (pc' := 53) (ls' := [some (.ref 0), some (.int (nI k)), some (.int 1)]) (sk' := [.ref 0]) (st' := st) (fun _ h => h) ?_
        refine w_blk 1 (pc' := 56) (ls' := [some (.ref 0), some (.int (nI k)), some (.int 1)]) (sk' := [.ref (Int32.toNatClampNeg (st.1 0 1))]) (st' := st) (fun _ h => h) ?_
        rw [hcr]
        refine w_blk 2 (pc' := 60) (ls' := [some (.ref 0), some (.int (nI k)), some (.int 1)]) (sk' := [.int (nI k), .ref 20]) (st' := st) (fun _ h => h) ?_
        refine w_callS (As := [.ref 20, .int (nI k)]) (rest := []) rfl rfl rfl (Nat.le_of_ble_eq_true rfl) (Nat.le_of_ble_eq_true rfl) (c_cellK (d + 1) 20 8 k st (by omega) (by decide) rfl) ?_
        rw [(hxy k hk).2]
        rw [show sp_yard n c u (nI k) 1 = (nI (c 6 k)) from by unfold sp_yard; rw [if_pos (nI_in3 (by omega) hk), if_neg (by decide), if_pos rfl, nI_clamp (show k < 2 ^ 31 by omega)]] at hq
        exact w_iret rfl rfl rfl hq
      · by_cases hw2 : w = 2
        · subst hw2
          refine w_tblIn (t := 64) rfl (by decide) (by decide) rfl rfl ?_
          refine w_blk 4 (pc' := 72) (ls' := [some (.ref 0), some (.int (nI k)), some (.int 2)]) (sk' := [.int (nI k), .ref 23]) (st' := st) (fun _ h => h) ?_
          refine w_callS (As := [.ref 23, .int (nI k)]) (rest := []) rfl rfl rfl (Nat.le_of_ble_eq_true rfl) (Nat.le_of_ble_eq_true rfl) (c_cellK (d + 1) 23 8 k st (by omega) (by decide) rfl) ?_
          rw [huo k (by omega)]
          rw [show sp_yard n c u (nI k) 2 = (nI (u (12 + k))) from by unfold sp_yard; rw [if_pos (nI_in3 (by omega) hk), if_neg (by decide), if_neg (by decide), if_pos rfl, nI_clamp (show k < 2 ^ 31 by omega)]] at hq
          exact w_iret rfl rfl rfl hq
        · refine w_tblOut (t := 76) rfl (tbl_out 2 (by decide) (by intro k hk; rcases (show k = 0 ∨ k = 1 ∨ k = 2 by omega) with rfl | rfl | rfl <;> assumption)) rfl ?_
          refine w_blk 1 (pc' := 77) (ls' := [some (.ref 0), some (.int (nI k)), some (.int w)]) (sk' := [.int (-1)]) (st' := st) (fun _ h => h) ?_
          rw [show (sp_yard n c u (nI k) w) = (-1) from by unfold sp_yard; rw [if_pos (nI_in3 (by omega) hk), if_neg hw0, if_neg hw1, if_neg hw2]] at hq
          exact w_iret rfl rfl rfl hq
  · replace h1 := pI_eq0.mp (Decidable.not_not.mp h1)
    refine w_blk 1 (pc' := 12) (ls' := [some (.ref 0), some (.int x), some (.int w)]) (sk' := [.int (-1)]) (st' := st) (fun _ h => h) ?_
    rw [show (sp_yard n c u x w) = (-1) from if_neg h1] at hq
    exact w_iret rfl rfl rfl hq
end
section
/-! PICTURES OF NOW, one number changed; what a row of changes leaves alone -/
def updN (u : Nat → Nat) (k x : Nat) : Nat → Nat := fun j => if j = k then x else u j
def updI (v : Nat → Int32) (k : Nat) (x : Int32) : Nat → Int32 := fun j => if j = k then x else v j
theorem updN_s {u : Nat → Nat} {k x : Nat} : updN u k x k = x := if_pos rfl
theorem updN_n {u : Nat → Nat} {k x j : Nat} (h : j ≠ k) : updN u k x j = u j := if_neg h
theorem updI_s {u : Nat → Int32} {k : Nat} {x : Int32} : updI u k x k = x := if_pos rfl
theorem updI_n {u : Nat → Int32} {k j : Nat} {x : Int32} (h : j ≠ k) : updI u k x j = u j := if_neg h
theorem mU_at {f : Nat → Nat → Int32} {p k : Nat} {x : Int32} : mU f p k x p k = x := by rw [mU_eq]; exact pk_us
theorem mU_row {f : Nat → Nat → Int32} {p k j : Nat} {x : Int32} (h : j ≠ k) : mU f p k x p j = f p j := by rw [mU_eq]; exact pk_un h
/-- what a call may change -/
def Fr (S : List Nat) (st st1 : mSt) : Prop := (∀ p, p ∉ S → st1.1 p = st.1 p) ∧ ∀ p, p ∉ S → st1.2 p = st.2 p
theorem Fr.rf {S : List Nat} {st : mSt} : Fr S st st := ⟨fun _ _ => rfl, fun _ _ => rfl⟩
theorem Fr.trans {S : List Nat} {a b c : mSt} (h1 : Fr S a b) (h2 : Fr S b c) : Fr S a c := ⟨fun p hp => (h2.1 p hp).trans (h1.1 p hp), fun p hp => (h2.2 p hp).trans (h1.2 p hp)⟩
theorem Fr.mU {S : List Nat} {st : mSt} {p k : Nat} {x : Int32} (h : p ∈ S) : Fr S st (mU st.1 p k x, st.2) := ⟨fun q hq => mU_ne (fun e => hq (e ▸ h)), fun _ _ => rfl⟩
theorem Fr.mUL {S : List Nat} {st : mSt} {p k : Nat} {x : Int64} (h : p ∈ S) : Fr S st (st.1, mUL st.2 p k x) := ⟨fun _ _ => rfl, fun q hq => mUL_ne (fun e => hq (e ▸ h))⟩
theorem Fr.fil {S : List Nat} {st : mSt} {p k : Nat} {x : Int32} (h : p ∈ S) : Fr S st (filU st.1 p k x, st.2) := ⟨fun q hq => filU_ne (fun e => hq (e ▸ h)), fun _ _ => rfl⟩
theorem Fr.mono {S S' : List Nat} {st st1 : mSt} (h : Fr S st st1) (hs : ∀ p, p ∈ S → p ∈ S') : Fr S' st st1 := ⟨fun p hp => h.1 p (fun q => hp (hs p q)), fun p hp => h.2 p (fun q => hp (hs p q))⟩
theorem N21_rd {st : mSt} {v : Nat → Int32} {u : Nat → Nat} {yd : Nat} (h : N21 st v u yd) (x : Int32) : N21 (mU st.1 21 0 x, st.2) (updI v 0 x) u yd := by
  obtain ⟨h0, h1, h2, h3, h4, h5, h6, h7, h8⟩ := h
  exact ⟨rfl, h1, h2, h3, h4, h5, h6, h7, h8⟩
theorem N21_bt {st : mSt} {v : Nat → Int32} {u : Nat → Nat} {yd : Nat} (h : N21 st v u yd) (x : Int32) : N21 (mU st.1 21 1 x, st.2) (updI v 1 x) u yd := by
  obtain ⟨h0, h1, h2, h3, h4, h5, h6, h7, h8⟩ := h
  exact ⟨h0, rfl, h2, h3, h4, h5, h6, h7, h8⟩
theorem N21_ea {st : mSt} {v : Nat → Int32} {u : Nat → Nat} {yd : Nat} (h : N21 st v u yd) (x : Int32) : N21 (mU st.1 21 2 x, st.2) (updI v 2 x) u yd := by
  obtain ⟨h0, h1, h2, h3, h4, h5, h6, h7, h8⟩ := h
  exact ⟨h0, h1, rfl, h3, h4, h5, h6, h7, h8⟩
theorem N21_yd {st : mSt} {v : Nat → Int32} {u : Nat → Nat} {yd : Nat} (h : N21 st v u yd) (x : Nat) : N21 (mU st.1 21 3 (nI x), st.2) v u x := by
  obtain ⟨h0, h1, h2, h3, h4, h5, h6, h7, h8⟩ := h
  exact ⟨h0, h1, h2, rfl, h4, h5, h6, h7, h8⟩
theorem N21_who {st : mSt} {v : Nat → Int32} {u : Nat → Nat} {yd : Nat} (h : N21 st v u yd) (x : Nat) : N21 (mU st.1 21 4 (nI x), st.2) v (updN u 3 x) yd := by
  obtain ⟨h0, h1, h2, h3, h4, h5, h6, h7, h8⟩ := h
  exact ⟨h0, h1, h2, h3, rfl, h5, h6, fun d hd => by rw [updN_n (by omega)]; exact h7 d hd, fun y hy => by rw [updN_n (by omega)]; exact h8 y hy⟩
theorem N21_wth {st : mSt} {v : Nat → Int32} {u : Nat → Nat} {yd : Nat} (h : N21 st v u yd) (x : Nat) : N21 (mU st.1 21 5 (nI x), st.2) v (updN u 4 x) yd := by
  obtain ⟨h0, h1, h2, h3, h4, h5, h6, h7, h8⟩ := h
  exact ⟨h0, h1, h2, h3, h4, rfl, h6, fun d hd => by rw [updN_n (by omega)]; exact h7 d hd, fun y hy => by rw [updN_n (by omega)]; exact h8 y hy⟩
theorem N21_brk {st : mSt} {v : Nat → Int32} {u : Nat → Nat} {yd : Nat} (h : N21 st v u yd) (x : Nat) : N21 (mU st.1 21 6 (nI x), st.2) v (updN u 5 x) yd := by
  obtain ⟨h0, h1, h2, h3, h4, h5, h6, h7, h8⟩ := h
  exact ⟨h0, h1, h2, h3, h4, h5, rfl, fun d hd => by rw [updN_n (by omega)]; exact h7 d hd, fun y hy => by rw [updN_n (by omega)]; exact h8 y hy⟩
theorem N21_thr {st : mSt} {v : Nat → Int32} {u : Nat → Nat} {yd : Nat} (h : N21 st v u yd) (k x : Nat) (hk : k < 6) : N21 (mU st.1 22 k (nI x), st.2) v (updN u (6 + k) x) yd := by
  obtain ⟨h0, h1, h2, h3, h4, h5, h6, h7, h8⟩ := h
  refine ⟨h0, h1, h2, h3, by rw [updN_n (by omega)]; exact h4, by rw [updN_n (by omega)]; exact h5, by rw [updN_n (by omega)]; exact h6, ?_, ?_⟩
  · exact fun j hj => by
      by_cases e : j = k
      · subst e
        rw [updN_s]
        show mU st.1 22 j (nI x) 22 j = nI x
        exact mU_at
      · rw [updN_n (by omega)]
        exact (mU_row e).trans (h7 j hj)
  · exact fun y hy => by rw [updN_n (by omega)]; exact h8 y hy
theorem N21_out {st : mSt} {v : Nat → Int32} {u : Nat → Nat} {yd : Nat} (h : N21 st v u yd) (k x : Nat) : N21 (mU st.1 23 k (nI x), st.2) v (updN u (12 + k) x) yd := by
  obtain ⟨h0, h1, h2, h3, h4, h5, h6, h7, h8⟩ := h
  refine ⟨h0, h1, h2, h3, by rw [updN_n (by omega)]; exact h4, by rw [updN_n (by omega)]; exact h5, by rw [updN_n (by omega)]; exact h6, ?_, ?_⟩
  · exact fun d hd => by rw [updN_n (by omega)]; exact h7 d hd
  · exact fun j hj => by
      by_cases e : j = k
      · subst e
        rw [updN_s]
        show mU st.1 23 j (nI x) 23 j = nI x
        exact mU_at
      · rw [updN_n (by omega)]
        exact (mU_row e).trans (h8 j hj)
theorem N25_rd {st : mSt} {v : Nat → Int32} {u : Nat → Nat} {yd : Nat} (h : N25 st v u yd) (x : Int32) : N25 (mU st.1 25 0 x, st.2) (updI v 0 x) u yd := by
  obtain ⟨h0, h1, h2, h3, h4, h5, h6, h7, h8⟩ := h
  exact ⟨rfl, h1, h2, h3, h4, h5, h6, h7, h8⟩
theorem N25_bt {st : mSt} {v : Nat → Int32} {u : Nat → Nat} {yd : Nat} (h : N25 st v u yd) (x : Int32) : N25 (mU st.1 25 1 x, st.2) (updI v 1 x) u yd := by
  obtain ⟨h0, h1, h2, h3, h4, h5, h6, h7, h8⟩ := h
  exact ⟨h0, rfl, h2, h3, h4, h5, h6, h7, h8⟩
theorem N25_ea {st : mSt} {v : Nat → Int32} {u : Nat → Nat} {yd : Nat} (h : N25 st v u yd) (x : Int32) : N25 (mU st.1 25 2 x, st.2) (updI v 2 x) u yd := by
  obtain ⟨h0, h1, h2, h3, h4, h5, h6, h7, h8⟩ := h
  exact ⟨h0, h1, rfl, h3, h4, h5, h6, h7, h8⟩
theorem N25_yd {st : mSt} {v : Nat → Int32} {u : Nat → Nat} {yd : Nat} (h : N25 st v u yd) (x : Nat) : N25 (mU st.1 25 3 (nI x), st.2) v u x := by
  obtain ⟨h0, h1, h2, h3, h4, h5, h6, h7, h8⟩ := h
  exact ⟨h0, h1, h2, rfl, h4, h5, h6, h7, h8⟩
theorem N25_who {st : mSt} {v : Nat → Int32} {u : Nat → Nat} {yd : Nat} (h : N25 st v u yd) (x : Nat) : N25 (mU st.1 25 4 (nI x), st.2) v (updN u 3 x) yd := by
  obtain ⟨h0, h1, h2, h3, h4, h5, h6, h7, h8⟩ := h
  exact ⟨h0, h1, h2, h3, rfl, h5, h6, fun d hd => by rw [updN_n (by omega)]; exact h7 d hd, fun y hy => by rw [updN_n (by omega)]; exact h8 y hy⟩
theorem N25_wth {st : mSt} {v : Nat → Int32} {u : Nat → Nat} {yd : Nat} (h : N25 st v u yd) (x : Nat) : N25 (mU st.1 25 5 (nI x), st.2) v (updN u 4 x) yd := by
  obtain ⟨h0, h1, h2, h3, h4, h5, h6, h7, h8⟩ := h
  exact ⟨h0, h1, h2, h3, h4, rfl, h6, fun d hd => by rw [updN_n (by omega)]; exact h7 d hd, fun y hy => by rw [updN_n (by omega)]; exact h8 y hy⟩
theorem N25_brk {st : mSt} {v : Nat → Int32} {u : Nat → Nat} {yd : Nat} (h : N25 st v u yd) (x : Nat) : N25 (mU st.1 25 6 (nI x), st.2) v (updN u 5 x) yd := by
  obtain ⟨h0, h1, h2, h3, h4, h5, h6, h7, h8⟩ := h
  exact ⟨h0, h1, h2, h3, h4, h5, rfl, fun d hd => by rw [updN_n (by omega)]; exact h7 d hd, fun y hy => by rw [updN_n (by omega)]; exact h8 y hy⟩
theorem N25_thr {st : mSt} {v : Nat → Int32} {u : Nat → Nat} {yd : Nat} (h : N25 st v u yd) (k x : Nat) (hk : k < 6) : N25 (mU st.1 26 k (nI x), st.2) v (updN u (6 + k) x) yd := by
  obtain ⟨h0, h1, h2, h3, h4, h5, h6, h7, h8⟩ := h
  refine ⟨h0, h1, h2, h3, by rw [updN_n (by omega)]; exact h4, by rw [updN_n (by omega)]; exact h5, by rw [updN_n (by omega)]; exact h6, ?_, ?_⟩
  · exact fun j hj => by
      by_cases e : j = k
      · subst e
        rw [updN_s]
        show mU st.1 26 j (nI x) 26 j = nI x
        exact mU_at
      · rw [updN_n (by omega)]
        exact (mU_row e).trans (h7 j hj)
  · exact fun y hy => by rw [updN_n (by omega)]; exact h8 y hy
theorem N25_out {st : mSt} {v : Nat → Int32} {u : Nat → Nat} {yd : Nat} (h : N25 st v u yd) (k x : Nat) : N25 (mU st.1 27 k (nI x), st.2) v (updN u (12 + k) x) yd := by
  obtain ⟨h0, h1, h2, h3, h4, h5, h6, h7, h8⟩ := h
  refine ⟨h0, h1, h2, h3, by rw [updN_n (by omega)]; exact h4, by rw [updN_n (by omega)]; exact h5, by rw [updN_n (by omega)]; exact h6, ?_, ?_⟩
  · exact fun d hd => by rw [updN_n (by omega)]; exact h7 d hd
  · exact fun j hj => by
      by_cases e : j = k
      · subst e
        rw [updN_s]
        show mU st.1 27 j (nI x) 27 j = nI x
        exact mU_at
      · rw [updN_n (by omega)]
        exact (mU_row e).trans (h8 j hj)
theorem N28_rd {st : mSt} {v : Nat → Int32} {u : Nat → Nat} {yd : Nat} (h : N28 st v u yd) (x : Int32) : N28 (mU st.1 28 0 x, st.2) (updI v 0 x) u yd := by
  obtain ⟨h0, h1, h2, h3, h4, h5, h6, h7, h8⟩ := h
  exact ⟨rfl, h1, h2, h3, h4, h5, h6, h7, h8⟩
theorem N28_bt {st : mSt} {v : Nat → Int32} {u : Nat → Nat} {yd : Nat} (h : N28 st v u yd) (x : Int32) : N28 (mU st.1 28 1 x, st.2) (updI v 1 x) u yd := by
  obtain ⟨h0, h1, h2, h3, h4, h5, h6, h7, h8⟩ := h
  exact ⟨h0, rfl, h2, h3, h4, h5, h6, h7, h8⟩
theorem N28_ea {st : mSt} {v : Nat → Int32} {u : Nat → Nat} {yd : Nat} (h : N28 st v u yd) (x : Int32) : N28 (mU st.1 28 2 x, st.2) (updI v 2 x) u yd := by
  obtain ⟨h0, h1, h2, h3, h4, h5, h6, h7, h8⟩ := h
  exact ⟨h0, h1, rfl, h3, h4, h5, h6, h7, h8⟩
theorem N28_yd {st : mSt} {v : Nat → Int32} {u : Nat → Nat} {yd : Nat} (h : N28 st v u yd) (x : Nat) : N28 (mU st.1 28 3 (nI x), st.2) v u x := by
  obtain ⟨h0, h1, h2, h3, h4, h5, h6, h7, h8⟩ := h
  exact ⟨h0, h1, h2, rfl, h4, h5, h6, h7, h8⟩
theorem N28_who {st : mSt} {v : Nat → Int32} {u : Nat → Nat} {yd : Nat} (h : N28 st v u yd) (x : Nat) : N28 (mU st.1 28 4 (nI x), st.2) v (updN u 3 x) yd := by
  obtain ⟨h0, h1, h2, h3, h4, h5, h6, h7, h8⟩ := h
  exact ⟨h0, h1, h2, h3, rfl, h5, h6, fun d hd => by rw [updN_n (by omega)]; exact h7 d hd, fun y hy => by rw [updN_n (by omega)]; exact h8 y hy⟩
theorem N28_wth {st : mSt} {v : Nat → Int32} {u : Nat → Nat} {yd : Nat} (h : N28 st v u yd) (x : Nat) : N28 (mU st.1 28 5 (nI x), st.2) v (updN u 4 x) yd := by
  obtain ⟨h0, h1, h2, h3, h4, h5, h6, h7, h8⟩ := h
  exact ⟨h0, h1, h2, h3, h4, rfl, h6, fun d hd => by rw [updN_n (by omega)]; exact h7 d hd, fun y hy => by rw [updN_n (by omega)]; exact h8 y hy⟩
theorem N28_brk {st : mSt} {v : Nat → Int32} {u : Nat → Nat} {yd : Nat} (h : N28 st v u yd) (x : Nat) : N28 (mU st.1 28 6 (nI x), st.2) v (updN u 5 x) yd := by
  obtain ⟨h0, h1, h2, h3, h4, h5, h6, h7, h8⟩ := h
  exact ⟨h0, h1, h2, h3, h4, h5, rfl, fun d hd => by rw [updN_n (by omega)]; exact h7 d hd, fun y hy => by rw [updN_n (by omega)]; exact h8 y hy⟩
theorem N28_thr {st : mSt} {v : Nat → Int32} {u : Nat → Nat} {yd : Nat} (h : N28 st v u yd) (k x : Nat) (hk : k < 6) : N28 (mU st.1 29 k (nI x), st.2) v (updN u (6 + k) x) yd := by
  obtain ⟨h0, h1, h2, h3, h4, h5, h6, h7, h8⟩ := h
  refine ⟨h0, h1, h2, h3, by rw [updN_n (by omega)]; exact h4, by rw [updN_n (by omega)]; exact h5, by rw [updN_n (by omega)]; exact h6, ?_, ?_⟩
  · exact fun j hj => by
      by_cases e : j = k
      · subst e
        rw [updN_s]
        show mU st.1 29 j (nI x) 29 j = nI x
        exact mU_at
      · rw [updN_n (by omega)]
        exact (mU_row e).trans (h7 j hj)
  · exact fun y hy => by rw [updN_n (by omega)]; exact h8 y hy
theorem N28_out {st : mSt} {v : Nat → Int32} {u : Nat → Nat} {yd : Nat} (h : N28 st v u yd) (k x : Nat) : N28 (mU st.1 30 k (nI x), st.2) v (updN u (12 + k) x) yd := by
  obtain ⟨h0, h1, h2, h3, h4, h5, h6, h7, h8⟩ := h
  refine ⟨h0, h1, h2, h3, by rw [updN_n (by omega)]; exact h4, by rw [updN_n (by omega)]; exact h5, by rw [updN_n (by omega)]; exact h6, ?_, ?_⟩
  · exact fun d hd => by rw [updN_n (by omega)]; exact h7 d hd
  · exact fun j hj => by
      by_cases e : j = k
      · subst e
        rw [updN_s]
        show mU st.1 30 j (nI x) 30 j = nI x
        exact mU_at
      · rw [updN_n (by omega)]
        exact (mU_row e).trans (h8 j hj)
theorem NM0_v {st : mSt} {v : Nat → Int32} {u : Nat → Nat} (h : NM0 st v u) (k : Nat) (x : Int32) (hk : k < 3) : NM0 (mU st.1 65 (k) x, st.2) (updI v k x) u := by
  refine ⟨fun j hj => ?_, fun j h3 hj => ?_⟩
  · by_cases e : j = k
    · subst e
      rw [updI_s]
      show mU st.1 65 (j) x 65 (j) = x
      exact mU_at
    · rw [updI_n e]
      exact (mU_row (by omega)).trans (h.1 j hj)
  · exact (mU_row (by omega)).trans (h.2 j h3 hj)
theorem NM0_u {st : mSt} {v : Nat → Int32} {u : Nat → Nat} (h : NM0 st v u) (k x : Nat) (hk : 3 ≤ k) : NM0 (mU st.1 65 (k) (nI x), st.2) v (updN u k x) := by
  refine ⟨fun j hj => ?_, fun j h3 hj => ?_⟩
  · exact (mU_row (by omega)).trans (h.1 j hj)
  · by_cases e : j = k
    · subst e
      rw [updN_s]
      show mU st.1 65 (j) (nI x) 65 (j) = nI x
      exact mU_at
    · rw [updN_n e]
      exact (mU_row (by omega)).trans (h.2 j h3 hj)
theorem NM1_v {st : mSt} {v : Nat → Int32} {u : Nat → Nat} (h : NM1 st v u) (k : Nat) (x : Int32) (hk : k < 3) : NM1 (mU st.1 65 (20 + k) x, st.2) (updI v k x) u := by
  refine ⟨fun j hj => ?_, fun j h3 hj => ?_⟩
  · by_cases e : j = k
    · subst e
      rw [updI_s]
      show mU st.1 65 (20 + j) x 65 (20 + j) = x
      exact mU_at
    · rw [updI_n e]
      exact (mU_row (by omega)).trans (h.1 j hj)
  · exact (mU_row (by omega)).trans (h.2 j h3 hj)
theorem NM1_u {st : mSt} {v : Nat → Int32} {u : Nat → Nat} (h : NM1 st v u) (k x : Nat) (hk : 3 ≤ k) : NM1 (mU st.1 65 (20 + k) (nI x), st.2) v (updN u k x) := by
  refine ⟨fun j hj => ?_, fun j h3 hj => ?_⟩
  · exact (mU_row (by omega)).trans (h.1 j hj)
  · by_cases e : j = k
    · subst e
      rw [updN_s]
      show mU st.1 65 (20 + j) (nI x) 65 (20 + j) = nI x
      exact mU_at
    · rw [updN_n e]
      exact (mU_row (by omega)).trans (h.2 j h3 hj)
theorem NM2_v {st : mSt} {v : Nat → Int32} {u : Nat → Nat} (h : NM2 st v u) (k : Nat) (x : Int32) (hk : k < 3) : NM2 (mU st.1 65 (40 + k) x, st.2) (updI v k x) u := by
  refine ⟨fun j hj => ?_, fun j h3 hj => ?_⟩
  · by_cases e : j = k
    · subst e
      rw [updI_s]
      show mU st.1 65 (40 + j) x 65 (40 + j) = x
      exact mU_at
    · rw [updI_n e]
      exact (mU_row (by omega)).trans (h.1 j hj)
  · exact (mU_row (by omega)).trans (h.2 j h3 hj)
theorem NM2_u {st : mSt} {v : Nat → Int32} {u : Nat → Nat} (h : NM2 st v u) (k x : Nat) (hk : 3 ≤ k) : NM2 (mU st.1 65 (40 + k) (nI x), st.2) v (updN u k x) := by
  refine ⟨fun j hj => ?_, fun j h3 hj => ?_⟩
  · exact (mU_row (by omega)).trans (h.1 j hj)
  · by_cases e : j = k
    · subst e
      rw [updN_s]
      show mU st.1 65 (40 + j) (nI x) 65 (40 + j) = nI x
      exact mU_at
    · rw [updN_n e]
      exact (mU_row (by omega)).trans (h.2 j h3 hj)
end
section
/-! THE PLAIN CALLS of the class SpadeRings, 2: may, throws, rounds, images, marks, counts, holes, told ones, the text typed -/
def sp_may (n : Nat → Nat) (c : Nat → Nat → Nat) (u : Nat → Nat) (x y : Int32) : Int32 := if ok0 n x then (if ok1 n y then pI ((c 4 y.toNatClampNeg = 0 ∨ c 4 y.toNatClampNeg = c 2 x.toNatClampNeg + 1) ∧ (u 5).testBit y.toNatClampNeg = false ∧ (u (6 + x.toNatClampNeg)).testBit y.toNatClampNeg = false) else -1) else -1
theorem nI_eqI {a b : Nat} (ha : a < 2 ^ 31) (hb : b < 2 ^ 31) : nI a = nI b ↔ a = b := nI_eq ha hb
theorem tb_false {a k : Nat} : ¬ a.testBit k = true ↔ a.testBit k = false := by
  cases a.testBit k <;> simp
theorem c_suitsK_5 (d : Nat) (n : Nat → Nat) (c : Nat → Nat → Nat) (k s : Nat) (st : mSt) (hX : X5 st n c) (hB : CB n c) (hk : k < n 0) (hs : s < n 1) : mMC mT (d + 2) 26 [.ref 5, .int (nI k), .int (nI s)] st (some (.int (pI (c 4 s = 0 ∨ c 4 s = c 2 k + 1)))) st := by
  obtain ⟨hb0, hb1, hb2, hbd, hbs, hby⟩ := hB
  obtain ⟨hn0, hn1, hn2, hxd, hxs, hxy⟩ := hX
  have h := c_suits_5 d (nI k) (nI s) st
  rw [celV_at (show s < 8 by omega) (by decide), celV_at (show k < 6 by omega) (by decide), (hxs s hs).2, (hxd k hk).2.2] at h
  have h1 := (hbs s hs).2.2
  have h2 := (hbd k hk).2.2.2.2
  have e : (nI (c 4 s) = 0 ∨ nI (c 4 s) = nI (c 2 k) + 1) ↔ (c 4 s = 0 ∨ c 4 s = c 2 k + 1) := by
    rw [← nI_0, nI_1, nI_eq (by omega) (by omega), nI_eq (by omega) (by omega)]
  rw [pI_cong e] at h
  exact h
theorem c_productK_5 (d : Nat) (n : Nat → Nat) (c : Nat → Nat → Nat) (k s : Nat) (st : mSt) (hX : X5 st n c) (hB : CB n c) (hk : k < n 0) (hs : s < n 1) : mMC mT (d + 2) 27 [.ref 5, .int (nI k), .int (nI s)] st (some (.int (nI (c 0 k * c 3 s)))) st := by
  obtain ⟨hb0, hb1, hb2, hbd, hbs, hby⟩ := hB
  obtain ⟨hn0, hn1, hn2, hxd, hxs, hxy⟩ := hX
  have h := c_product_5 d (nI k) (nI s) st
  rw [celV_at (show s < 8 by omega) (by decide), celV_at (show k < 6 by omega) (by decide), (hxs s hs).1, (hxd k hk).1, pk_mul] at h
  exact h
theorem c_suitsK_13 (d : Nat) (n : Nat → Nat) (c : Nat → Nat → Nat) (k s : Nat) (st : mSt) (hX : X13 st n c) (hB : CB n c) (hk : k < n 0) (hs : s < n 1) : mMC mT (d + 2) 26 [.ref 13, .int (nI k), .int (nI s)] st (some (.int (pI (c 4 s = 0 ∨ c 4 s = c 2 k + 1)))) st := by
  obtain ⟨hb0, hb1, hb2, hbd, hbs, hby⟩ := hB
  obtain ⟨hn0, hn1, hn2, hxd, hxs, hxy⟩ := hX
  have h := c_suits_13 d (nI k) (nI s) st
  rw [celV_at (show s < 8 by omega) (by decide), celV_at (show k < 6 by omega) (by decide), (hxs s hs).2, (hxd k hk).2.2] at h
  have h1 := (hbs s hs).2.2
  have h2 := (hbd k hk).2.2.2.2
  have e : (nI (c 4 s) = 0 ∨ nI (c 4 s) = nI (c 2 k) + 1) ↔ (c 4 s = 0 ∨ c 4 s = c 2 k + 1) := by
    rw [← nI_0, nI_1, nI_eq (by omega) (by omega), nI_eq (by omega) (by omega)]
  rw [pI_cong e] at h
  exact h
theorem c_productK_13 (d : Nat) (n : Nat → Nat) (c : Nat → Nat → Nat) (k s : Nat) (st : mSt) (hX : X13 st n c) (hB : CB n c) (hk : k < n 0) (hs : s < n 1) : mMC mT (d + 2) 27 [.ref 13, .int (nI k), .int (nI s)] st (some (.int (nI (c 0 k * c 3 s)))) st := by
  obtain ⟨hb0, hb1, hb2, hbd, hbs, hby⟩ := hB
  obtain ⟨hn0, hn1, hn2, hxd, hxs, hxy⟩ := hX
  have h := c_product_13 d (nI k) (nI s) st
  rw [celV_at (show s < 8 by omega) (by decide), celV_at (show k < 6 by omega) (by decide), (hxs s hs).1, (hxd k hk).1, pk_mul] at h
  exact h
set_option maxRecDepth 20000 in
/-- allows(crew, k, s) -/
theorem c_allows_5 (d : Nat) (n : Nat → Nat) (c : Nat → Nat → Nat) (v : Nat → Int32) (u : Nat → Nat) (yd : Nat) (k s : Nat) (st : mSt) (hX : X5 st n c) (hB : CB n c) (hN : N21 st v u yd) (hU : ∀ j, 3 ≤ j → j < 12 → u j < 256) (hk : k < n 0) (hs : s < n 1) : mMC mT (d + 3) 47 [.ref 21, .ref 5, .int (nI k), .int (nI s)] st (some (.int (pI ((c 4 s = 0 ∨ c 4 s = c 2 k + 1) ∧ (u 5).testBit s = false ∧ (u (6 + k)).testBit s = false)))) st := by
  refine mI_X5_allows (d := d + 2) (Nat.le_of_ble_eq_true rfl) (fun Q hq => ?_)
  show mW (mMC mT (d + 2)) (0, fun _ => 0) (mAtL P_X5_allows) (some .boolean) Q 0 [some (.ref 21), some (.ref 5), some (.int (nI k)), some (.int (nI s))] [] st
  obtain ⟨hn0, hn1, hn2, hxd, hxs, hxy⟩ := id hX
  obtain ⟨hb0, hb1, hb2, hbd, hbs, hby⟩ := id hB
  obtain ⟨hv0, hv1, hv2, hv3, hu3, hu4, hu5, hut, huo⟩ := id hN
  refine w_blk 3 (pc' := 3) (ls' := [some (.ref 21), some (.ref 5), some (.int (nI k)), some (.int (nI s))]) (sk' := [.int (nI s), .int (nI k), .ref 5]) (st' := st) (fun _ h => h) ?_
  refine w_callV (As := [.ref 5, .int (nI k), .int (nI s)]) (rest := []) rfl rfl rfl (Nat.le_of_ble_eq_true rfl) (Nat.le_of_ble_eq_true rfl) (by first | exact Or.inl ⟨rfl, rfl⟩ | exact Or.inr ⟨rfl, rfl⟩) (c_suitsK_5 (d + 0) n c k s st hX hB (by omega) (by omega)) ?_
  refine w_if_eq rfl (fun h1 => ?_) (fun h1 => ?_)
  · replace h1 := pI_eq0.mp h1
    refine w_blk 1 (pc' := 40) (ls' := [some (.ref 21), some (.ref 5), some (.int (nI k)), some (.int (nI s))]) (sk' := [.int 0]) (st' := st) (fun _ h => h) ?_
    rw [pI_f (fun hh => by first | exact absurd hh.1 h1 | exact absurd h2 (tb_false.mpr hh.2.1) | exact absurd h3 (tb_false.mpr hh.2.2))] at hq
    exact w_iret rfl rfl rfl hq
  · replace h1 := pI_ne.mp h1
    refine w_blk 3 (pc' := 14) (ls' := [some (.ref 21), some (.ref 5), some (.int (nI k)), some (.int (nI s))]) (sk' := [.int (nI s), .int (st.1 21 6)]) (st' := st) (fun _ h => h) ?_
    rw [hu5]
    refine w_callS (As := [.int (nI (u 5)), .int (nI s)]) (rest := []) rfl rfl rfl (Nat.le_of_ble_eq_true rfl) (Nat.le_of_ble_eq_true rfl) (c_hasBit (d + 1) (nI (u 5)) (nI s) st) ?_
    rw [pI_cong (bitP_nI (by omega) (by have := hU 5 (by omega) (by omega); omega))]
    refine w_if_ne rfl (fun h2 => ?_) (fun h2 => ?_)
    · replace h2 := pI_ne.mp h2
      refine w_blk 1 (pc' := 40) (ls' := [some (.ref 21), some (.ref 5), some (.int (nI k)), some (.int (nI s))]) (sk' := [.int 0]) (st' := st) (fun _ h => h) ?_
      rw [pI_f (fun hh => by first | exact absurd hh.1 h1 | exact absurd h2 (tb_false.mpr hh.2.1) | exact absurd h3 (tb_false.mpr hh.2.2))] at hq
      exact w_iret rfl rfl rfl hq
    · replace h2 := pI_eq0.mp (Decidable.not_not.mp h2)
      refine w_blk 3 (pc' := 25) (ls' := [some (.ref 21), some (.ref 5), some (.int (nI k)), some (.int (nI s))]) (sk' := [.int (nI k), .ref 22]) (st' := st) (fun _ h => h) ?_
      refine w_callS (As := [.ref 22, .int (nI k)]) (rest := []) rfl rfl rfl (Nat.le_of_ble_eq_true rfl) (Nat.le_of_ble_eq_true rfl) (c_cellK (d + 1) 22 6 k st (by omega) (by decide) rfl) ?_
      rw [hut k (by omega)]
      refine w_blk 1 (pc' := 29) (ls' := [some (.ref 21), some (.ref 5), some (.int (nI k)), some (.int (nI s))]) (sk' := [.int (nI s), .int (nI (u (6 + k)))]) (st' := st) (fun _ h => h) ?_
      refine w_callS (As := [.int (nI (u (6 + k))), .int (nI s)]) (rest := []) rfl rfl rfl (Nat.le_of_ble_eq_true rfl) (Nat.le_of_ble_eq_true rfl) (c_hasBit (d + 1) (nI (u (6 + k))) (nI s) st) ?_
      rw [pI_cong (bitP_nI (by omega) (by have := hU (6 + k) (by omega) (by omega); omega))]
      refine w_if_ne rfl (fun h3 => ?_) (fun h3 => ?_)
      · replace h3 := pI_ne.mp h3
        refine w_blk 1 (pc' := 40) (ls' := [some (.ref 21), some (.ref 5), some (.int (nI k)), some (.int (nI s))]) (sk' := [.int 0]) (st' := st) (fun _ h => h) ?_
        rw [pI_f (fun hh => by first | exact absurd hh.1 h1 | exact absurd h2 (tb_false.mpr hh.2.1) | exact absurd h3 (tb_false.mpr hh.2.2))] at hq
        exact w_iret rfl rfl rfl hq
      · replace h3 := pI_eq0.mp (Decidable.not_not.mp h3)
        refine w_blk 2 (pc' := 40) (ls' := [some (.ref 21), some (.ref 5), some (.int (nI k)), some (.int (nI s))]) (sk' := [.int 1]) (st' := st) (fun _ h => h) ?_
        rw [pI_t ⟨h1, tb_false.mp h2, tb_false.mp h3⟩] at hq
        exact w_iret rfl rfl rfl hq
set_option maxRecDepth 20000 in
/-- allows(crew, k, s) -/
theorem c_allows_13 (d : Nat) (n : Nat → Nat) (c : Nat → Nat → Nat) (v : Nat → Int32) (u : Nat → Nat) (yd : Nat) (k s : Nat) (st : mSt) (hX : X13 st n c) (hB : CB n c) (hN : N21 st v u yd) (hU : ∀ j, 3 ≤ j → j < 12 → u j < 256) (hk : k < n 0) (hs : s < n 1) : mMC mT (d + 3) 47 [.ref 21, .ref 13, .int (nI k), .int (nI s)] st (some (.int (pI ((c 4 s = 0 ∨ c 4 s = c 2 k + 1) ∧ (u 5).testBit s = false ∧ (u (6 + k)).testBit s = false)))) st := by
  refine mI_X5_allows (d := d + 2) (Nat.le_of_ble_eq_true rfl) (fun Q hq => ?_)
  show mW (mMC mT (d + 2)) (0, fun _ => 0) (mAtL P_X5_allows) (some .boolean) Q 0 [some (.ref 21), some (.ref 13), some (.int (nI k)), some (.int (nI s))] [] st
  obtain ⟨hn0, hn1, hn2, hxd, hxs, hxy⟩ := id hX
  obtain ⟨hb0, hb1, hb2, hbd, hbs, hby⟩ := id hB
  obtain ⟨hv0, hv1, hv2, hv3, hu3, hu4, hu5, hut, huo⟩ := id hN
  refine w_blk 3 (pc' := 3) (ls' := [some (.ref 21), some (.ref 13), some (.int (nI k)), some (.int (nI s))]) (sk' := [.int (nI s), .int (nI k), .ref 13]) (st' := st) (fun _ h => h) ?_
  refine w_callV (As := [.ref 13, .int (nI k), .int (nI s)]) (rest := []) rfl rfl rfl (Nat.le_of_ble_eq_true rfl) (Nat.le_of_ble_eq_true rfl) (by first | exact Or.inl ⟨rfl, rfl⟩ | exact Or.inr ⟨rfl, rfl⟩) (c_suitsK_13 (d + 0) n c k s st hX hB (by omega) (by omega)) ?_
  refine w_if_eq rfl (fun h1 => ?_) (fun h1 => ?_)
  · replace h1 := pI_eq0.mp h1
    refine w_blk 1 (pc' := 40) (ls' := [some (.ref 21), some (.ref 13), some (.int (nI k)), some (.int (nI s))]) (sk' := [.int 0]) (st' := st) (fun _ h => h) ?_
    rw [pI_f (fun hh => by first | exact absurd hh.1 h1 | exact absurd h2 (tb_false.mpr hh.2.1) | exact absurd h3 (tb_false.mpr hh.2.2))] at hq
    exact w_iret rfl rfl rfl hq
  · replace h1 := pI_ne.mp h1
    refine w_blk 3 (pc' := 14) (ls' := [some (.ref 21), some (.ref 13), some (.int (nI k)), some (.int (nI s))]) (sk' := [.int (nI s), .int (st.1 21 6)]) (st' := st) (fun _ h => h) ?_
    rw [hu5]
    refine w_callS (As := [.int (nI (u 5)), .int (nI s)]) (rest := []) rfl rfl rfl (Nat.le_of_ble_eq_true rfl) (Nat.le_of_ble_eq_true rfl) (c_hasBit (d + 1) (nI (u 5)) (nI s) st) ?_
    rw [pI_cong (bitP_nI (by omega) (by have := hU 5 (by omega) (by omega); omega))]
    refine w_if_ne rfl (fun h2 => ?_) (fun h2 => ?_)
    · replace h2 := pI_ne.mp h2
      refine w_blk 1 (pc' := 40) (ls' := [some (.ref 21), some (.ref 13), some (.int (nI k)), some (.int (nI s))]) (sk' := [.int 0]) (st' := st) (fun _ h => h) ?_
      rw [pI_f (fun hh => by first | exact absurd hh.1 h1 | exact absurd h2 (tb_false.mpr hh.2.1) | exact absurd h3 (tb_false.mpr hh.2.2))] at hq
      exact w_iret rfl rfl rfl hq
    · replace h2 := pI_eq0.mp (Decidable.not_not.mp h2)
      refine w_blk 3 (pc' := 25) (ls' := [some (.ref 21), some (.ref 13), some (.int (nI k)), some (.int (nI s))]) (sk' := [.int (nI k), .ref 22]) (st' := st) (fun _ h => h) ?_
      refine w_callS (As := [.ref 22, .int (nI k)]) (rest := []) rfl rfl rfl (Nat.le_of_ble_eq_true rfl) (Nat.le_of_ble_eq_true rfl) (c_cellK (d + 1) 22 6 k st (by omega) (by decide) rfl) ?_
      rw [hut k (by omega)]
      refine w_blk 1 (pc' := 29) (ls' := [some (.ref 21), some (.ref 13), some (.int (nI k)), some (.int (nI s))]) (sk' := [.int (nI s), .int (nI (u (6 + k)))]) (st' := st) (fun _ h => h) ?_
      refine w_callS (As := [.int (nI (u (6 + k))), .int (nI s)]) (rest := []) rfl rfl rfl (Nat.le_of_ble_eq_true rfl) (Nat.le_of_ble_eq_true rfl) (c_hasBit (d + 1) (nI (u (6 + k))) (nI s) st) ?_
      rw [pI_cong (bitP_nI (by omega) (by have := hU (6 + k) (by omega) (by omega); omega))]
      refine w_if_ne rfl (fun h3 => ?_) (fun h3 => ?_)
      · replace h3 := pI_ne.mp h3
        refine w_blk 1 (pc' := 40) (ls' := [some (.ref 21), some (.ref 13), some (.int (nI k)), some (.int (nI s))]) (sk' := [.int 0]) (st' := st) (fun _ h => h) ?_
        rw [pI_f (fun hh => by first | exact absurd hh.1 h1 | exact absurd h2 (tb_false.mpr hh.2.1) | exact absurd h3 (tb_false.mpr hh.2.2))] at hq
        exact w_iret rfl rfl rfl hq
      · replace h3 := pI_eq0.mp (Decidable.not_not.mp h3)
        refine w_blk 2 (pc' := 40) (ls' := [some (.ref 21), some (.ref 13), some (.int (nI k)), some (.int (nI s))]) (sk' := [.int 1]) (st' := st) (fun _ h => h) ?_
        rw [pI_t ⟨h1, tb_false.mp h2, tb_false.mp h3⟩] at hq
        exact w_iret rfl rfl rfl hq
set_option maxRecDepth 20000 in
/-- canThrow(crew, k, s) -/
theorem c_canThrow_5 (d : Nat) (n : Nat → Nat) (c : Nat → Nat → Nat) (v : Nat → Int32) (u : Nat → Nat) (yd : Nat) (k s : Nat) (st : mSt) (hX : X5 st n c) (hB : CB n c) (hN : N21 st v u yd) (hU : ∀ j, 3 ≤ j → j < 12 → u j < 256) (hk : k < n 0) (hs : s < n 1) : mMC mT (d + 4) 48 [.ref 21, .ref 5, .int (nI k), .int (nI s)] st (some (.int (pI (((c 4 s = 0 ∨ c 4 s = c 2 k + 1) ∧ (u 5).testBit s = false ∧ (u (6 + k)).testBit s = false) ∧ (u 3).testBit k = false ∧ (u 4).testBit s = false)))) st := by
  refine mI_X5_canThrow (d := d + 3) (Nat.le_of_ble_eq_true rfl) (fun Q hq => ?_)
  show mW (mMC mT (d + 3)) (0, fun _ => 0) (mAtL P_X5_canThrow) (some .boolean) Q 0 [some (.ref 21), some (.ref 5), some (.int (nI k)), some (.int (nI s))] [] st
  obtain ⟨hn0, hn1, hn2, hxd, hxs, hxy⟩ := id hX
  obtain ⟨hb0, hb1, hb2, hbd, hbs, hby⟩ := id hB
  obtain ⟨hv0, hv1, hv2, hv3, hu3, hu4, hu5, hut, huo⟩ := id hN
  refine w_blk 4 (pc' := 4) (ls' := [some (.ref 21), some (.ref 5), some (.int (nI k)), some (.int (nI s))]) (sk' := [.int (nI s), .int (nI k), .ref 5, .ref 21]) (st' := st) (fun _ h => h) ?_
  refine w_callV (As := [.ref 21, .ref 5, .int (nI k), .int (nI s)]) (rest := []) rfl rfl rfl (Nat.le_of_ble_eq_true rfl) (Nat.le_of_ble_eq_true rfl) (by first | exact Or.inl ⟨rfl, rfl⟩ | exact Or.inr ⟨rfl, rfl⟩) (c_allows_5 (d + 0) n c v u yd k s st hX hB hN hU (by omega) (by omega)) ?_
  refine w_if_eq rfl (fun h1 => ?_) (fun h1 => ?_)
  · replace h1 := pI_eq0.mp h1
    refine w_blk 1 (pc' := 37) (ls' := [some (.ref 21), some (.ref 5), some (.int (nI k)), some (.int (nI s))]) (sk' := [.int 0]) (st' := st) (fun _ h => h) ?_
    rw [pI_f (fun hh => by first | exact absurd hh.1 h1 | exact absurd h2 (tb_false.mpr hh.2.1) | exact absurd h3 (tb_false.mpr hh.2.2))] at hq
    exact w_iret rfl rfl rfl hq
  · replace h1 := pI_ne.mp h1
    refine w_blk 3 (pc' := 15) (ls' := [some (.ref 21), some (.ref 5), some (.int (nI k)), some (.int (nI s))]) (sk' := [.int (nI k), .int (st.1 21 4)]) (st' := st) (fun _ h => h) ?_
    rw [hu3]
    refine w_callS (As := [.int (nI (u 3)), .int (nI k)]) (rest := []) rfl rfl rfl (Nat.le_of_ble_eq_true rfl) (Nat.le_of_ble_eq_true rfl) (c_hasBit (d + 2) (nI (u 3)) (nI k) st) ?_
    rw [pI_cong (bitP_nI (by omega) (by have := hU 3 (by omega) (by omega); omega))]
    refine w_if_ne rfl (fun h2 => ?_) (fun h2 => ?_)
    · replace h2 := pI_ne.mp h2
      refine w_blk 1 (pc' := 37) (ls' := [some (.ref 21), some (.ref 5), some (.int (nI k)), some (.int (nI s))]) (sk' := [.int 0]) (st' := st) (fun _ h => h) ?_
      rw [pI_f (fun hh => by first | exact absurd hh.1 h1 | exact absurd h2 (tb_false.mpr hh.2.1) | exact absurd h3 (tb_false.mpr hh.2.2))] at hq
      exact w_iret rfl rfl rfl hq
    · replace h2 := pI_eq0.mp (Decidable.not_not.mp h2)
      refine w_blk 3 (pc' := 26) (ls' := [some (.ref 21), some (.ref 5), some (.int (nI k)), some (.int (nI s))]) (sk' := [.int (nI s), .int (st.1 21 5)]) (st' := st) (fun _ h => h) ?_
      rw [hu4]
      refine w_callS (As := [.int (nI (u 4)), .int (nI s)]) (rest := []) rfl rfl rfl (Nat.le_of_ble_eq_true rfl) (Nat.le_of_ble_eq_true rfl) (c_hasBit (d + 2) (nI (u 4)) (nI s) st) ?_
      rw [pI_cong (bitP_nI (by omega) (by have := hU 4 (by omega) (by omega); omega))]
      refine w_if_ne rfl (fun h3 => ?_) (fun h3 => ?_)
      · replace h3 := pI_ne.mp h3
        refine w_blk 1 (pc' := 37) (ls' := [some (.ref 21), some (.ref 5), some (.int (nI k)), some (.int (nI s))]) (sk' := [.int 0]) (st' := st) (fun _ h => h) ?_
        rw [pI_f (fun hh => by first | exact absurd hh.1 h1 | exact absurd h2 (tb_false.mpr hh.2.1) | exact absurd h3 (tb_false.mpr hh.2.2))] at hq
        exact w_iret rfl rfl rfl hq
      · replace h3 := pI_eq0.mp (Decidable.not_not.mp h3)
        refine w_blk 2 (pc' := 37) (ls' := [some (.ref 21), some (.ref 5), some (.int (nI k)), some (.int (nI s))]) (sk' := [.int 1]) (st' := st) (fun _ h => h) ?_
        rw [pI_t ⟨h1, tb_false.mp h2, tb_false.mp h3⟩] at hq
        exact w_iret rfl rfl rfl hq
set_option maxRecDepth 20000 in
/-- canThrow(crew, k, s) -/
theorem c_canThrow_13 (d : Nat) (n : Nat → Nat) (c : Nat → Nat → Nat) (v : Nat → Int32) (u : Nat → Nat) (yd : Nat) (k s : Nat) (st : mSt) (hX : X13 st n c) (hB : CB n c) (hN : N21 st v u yd) (hU : ∀ j, 3 ≤ j → j < 12 → u j < 256) (hk : k < n 0) (hs : s < n 1) : mMC mT (d + 4) 48 [.ref 21, .ref 13, .int (nI k), .int (nI s)] st (some (.int (pI (((c 4 s = 0 ∨ c 4 s = c 2 k + 1) ∧ (u 5).testBit s = false ∧ (u (6 + k)).testBit s = false) ∧ (u 3).testBit k = false ∧ (u 4).testBit s = false)))) st := by
  refine mI_X5_canThrow (d := d + 3) (Nat.le_of_ble_eq_true rfl) (fun Q hq => ?_)
  show mW (mMC mT (d + 3)) (0, fun _ => 0) (mAtL P_X5_canThrow) (some .boolean) Q 0 [some (.ref 21), some (.ref 13), some (.int (nI k)), some (.int (nI s))] [] st
  obtain ⟨hn0, hn1, hn2, hxd, hxs, hxy⟩ := id hX
  obtain ⟨hb0, hb1, hb2, hbd, hbs, hby⟩ := id hB
  obtain ⟨hv0, hv1, hv2, hv3, hu3, hu4, hu5, hut, huo⟩ := id hN
  refine w_blk 4 (pc' := 4) (ls' := [some (.ref 21), some (.ref 13), some (.int (nI k)), some (.int (nI s))]) (sk' := [.int (nI s), .int (nI k), .ref 13, .ref 21]) (st' := st) (fun _ h => h) ?_
  refine w_callV (As := [.ref 21, .ref 13, .int (nI k), .int (nI s)]) (rest := []) rfl rfl rfl (Nat.le_of_ble_eq_true rfl) (Nat.le_of_ble_eq_true rfl) (by first | exact Or.inl ⟨rfl, rfl⟩ | exact Or.inr ⟨rfl, rfl⟩) (c_allows_13 (d + 0) n c v u yd k s st hX hB hN hU (by omega) (by omega)) ?_
  refine w_if_eq rfl (fun h1 => ?_) (fun h1 => ?_)
  · replace h1 := pI_eq0.mp h1
    refine w_blk 1 (pc' := 37) (ls' := [some (.ref 21), some (.ref 13), some (.int (nI k)), some (.int (nI s))]) (sk' := [.int 0]) (st' := st) (fun _ h => h) ?_
    rw [pI_f (fun hh => by first | exact absurd hh.1 h1 | exact absurd h2 (tb_false.mpr hh.2.1) | exact absurd h3 (tb_false.mpr hh.2.2))] at hq
    exact w_iret rfl rfl rfl hq
  · replace h1 := pI_ne.mp h1
    refine w_blk 3 (pc' := 15) (ls' := [some (.ref 21), some (.ref 13), some (.int (nI k)), some (.int (nI s))]) (sk' := [.int (nI k), .int (st.1 21 4)]) (st' := st) (fun _ h => h) ?_
    rw [hu3]
    refine w_callS (As := [.int (nI (u 3)), .int (nI k)]) (rest := []) rfl rfl rfl (Nat.le_of_ble_eq_true rfl) (Nat.le_of_ble_eq_true rfl) (c_hasBit (d + 2) (nI (u 3)) (nI k) st) ?_
    rw [pI_cong (bitP_nI (by omega) (by have := hU 3 (by omega) (by omega); omega))]
    refine w_if_ne rfl (fun h2 => ?_) (fun h2 => ?_)
    · replace h2 := pI_ne.mp h2
      refine w_blk 1 (pc' := 37) (ls' := [some (.ref 21), some (.ref 13), some (.int (nI k)), some (.int (nI s))]) (sk' := [.int 0]) (st' := st) (fun _ h => h) ?_
      rw [pI_f (fun hh => by first | exact absurd hh.1 h1 | exact absurd h2 (tb_false.mpr hh.2.1) | exact absurd h3 (tb_false.mpr hh.2.2))] at hq
      exact w_iret rfl rfl rfl hq
    · replace h2 := pI_eq0.mp (Decidable.not_not.mp h2)
      refine w_blk 3 (pc' := 26) (ls' := [some (.ref 21), some (.ref 13), some (.int (nI k)), some (.int (nI s))]) (sk' := [.int (nI s), .int (st.1 21 5)]) (st' := st) (fun _ h => h) ?_
      rw [hu4]
      refine w_callS (As := [.int (nI (u 4)), .int (nI s)]) (rest := []) rfl rfl rfl (Nat.le_of_ble_eq_true rfl) (Nat.le_of_ble_eq_true rfl) (c_hasBit (d + 2) (nI (u 4)) (nI s) st) ?_
      rw [pI_cong (bitP_nI (by omega) (by have := hU 4 (by omega) (by omega); omega))]
      refine w_if_ne rfl (fun h3 => ?_) (fun h3 => ?_)
      · replace h3 := pI_ne.mp h3
        refine w_blk 1 (pc' := 37) (ls' := [some (.ref 21), some (.ref 13), some (.int (nI k)), some (.int (nI s))]) (sk' := [.int 0]) (st' := st) (fun _ h => h) ?_
        rw [pI_f (fun hh => by first | exact absurd hh.1 h1 | exact absurd h2 (tb_false.mpr hh.2.1) | exact absurd h3 (tb_false.mpr hh.2.2))] at hq
        exact w_iret rfl rfl rfl hq
      · replace h3 := pI_eq0.mp (Decidable.not_not.mp h3)
        refine w_blk 2 (pc' := 37) (ls' := [some (.ref 21), some (.ref 13), some (.int (nI k)), some (.int (nI s))]) (sk' := [.int 1]) (st' := st) (fun _ h => h) ?_
        rw [pI_t ⟨h1, tb_false.mp h2, tb_false.mp h3⟩] at hq
        exact w_iret rfl rfl rfl hq
set_option maxRecDepth 20000 in
/-- may -/
theorem x_may_5 (d : Nat) (n : Nat → Nat) (c : Nat → Nat → Nat) (v : Nat → Int32) (u : Nat → Nat) (yd : Nat) (x y : Int32) (st : mSt) (hcw : st.1 0 1 = nI 5) (hX : X5 st n c) (hB : CB n c) (hN : N21 st v u yd) (hU : ∀ j, 3 ≤ j → j < 12 → u j < 256) : mMC mT (d + 4) 91 [.ref 0, .int x, .int y] st (some (.int (sp_may n c u x y))) st := by
  refine mI_X9_may (d := d + 3) (Nat.le_of_ble_eq_true rfl) (fun Q hq => ?_)
  show mW (mMC mT (d + 3)) (0, fun _ => 0) (mAtL P_X9_may) (some .int) Q 0 [some (.ref 0), some (.int x), some (.int y)] [] st
  have hcr : (st.1 0 1).toNatClampNeg = 5 := by rw [hcw]; rfl
  obtain ⟨hn0, hn1, hn2, hxd, hxs, hxy⟩ := id hX
  obtain ⟨hb0, hb1, hb2, hbd, hbs, hby⟩ := id hB
  refine w_blk 1 (pc' := 1) (ls' := [some (.ref 0), some (.int x), some (.int y)]) (sk' := [.ref 0]) (st' := st) (fun _ h => h) ?_
  refine w_blk 1 (pc' := 4) (ls' := [some (.ref 0), some (.int x), some (.int y)]) (sk' := [.ref (Int32.toNatClampNeg (st.1 0 1))]) (st' := st) (fun _ h => h) ?_
  rw [hcr]
  refine w_blk 1 (pc' := 5) (ls' := [some (.ref 0), some (.int x), some (.int y)]) (sk' := [.int x, .ref 5]) (st' := st) (fun _ h => h) ?_
  refine w_callV (As := [.ref 5, .int x]) (rest := []) rfl rfl rfl (Nat.le_of_ble_eq_true rfl) (Nat.le_of_ble_eq_true rfl) (by first | exact Or.inl ⟨rfl, rfl⟩ | exact Or.inr ⟨rfl, rfl⟩) (c_hasDigger_5 (d + 2) x st) ?_
  rw [hn0]
  refine w_if_eq rfl (fun h1 => ?_) (fun h1 => ?_)
  · replace h1 := pI_eq0.mp h1
    refine w_blk 1 (pc' := 23) (ls' := [some (.ref 0), some (.int x), some (.int y)]) (sk' := [.int (-1)]) (st' := st) (fun _ h => h) ?_
    rw [show sp_may n c u x y = (-1) from if_neg h1] at hq
    exact w_iret rfl rfl rfl hq
  · replace h1 := pI_ne.mp h1
    refine w_blk 1 (pc' := 12) (ls' := [some (.ref 0), some (.int x), some (.int y)]) (sk' := [.ref 0]) (st' := st) (fun _ h => h) ?_
    refine w_blk 1 (pc' := 15) (ls' := [some (.ref 0), some (.int x), some (.int y)]) (sk' := [.ref (Int32.toNatClampNeg (st.1 0 1))]) (st' := st) (fun _ h => h) ?_
    rw [hcr]
    refine w_blk 1 (pc' := 16) (ls' := [some (.ref 0), some (.int x), some (.int y)]) (sk' := [.int y, .ref 5]) (st' := st) (fun _ h => h) ?_
    obtain ⟨k, hk, rfl⟩ := nI_in2 (by omega) h1
    refine w_callV (As := [.ref 5, .int y]) (rest := []) rfl rfl rfl (Nat.le_of_ble_eq_true rfl) (Nat.le_of_ble_eq_true rfl) (by first | exact Or.inl ⟨rfl, rfl⟩ | exact Or.inr ⟨rfl, rfl⟩) (c_hasSpade_5 (d + 2) y st) ?_
    rw [hn1]
    refine w_if_ne rfl (fun h2 => ?_) (fun h2 => ?_)
    · replace h2 := pI_ne.mp h2
      refine w_blk 3 (pc' := 29) (ls' := [some (.ref 0), some (.int (nI k)), some (.int y)]) (sk' := [.ref 0, .ref 21]) (st' := st) (fun _ h => h) ?_
      refine w_blk 1 (pc' := 32) (ls' := [some (.ref 0), some (.int (nI k)), some (.int y)]) (sk' := [.ref (Int32.toNatClampNeg (st.1 0 1)), .ref 21]) (st' := st) (fun _ h => h) ?_
      rw [hcr]
      refine w_blk 2 (pc' := 34) (ls' := [some (.ref 0), some (.int (nI k)), some (.int y)]) (sk' := [.int y, .int (nI k), .ref 5, .ref 21]) (st' := st) (fun _ h => h) ?_
      obtain ⟨s, hs, rfl⟩ := nI_in2 (by omega) h2
      refine w_callV (As := [.ref 21, .ref 5, .int (nI k), .int (nI s)]) (rest := []) rfl rfl rfl (Nat.le_of_ble_eq_true rfl) (Nat.le_of_ble_eq_true rfl) (by first | exact Or.inl ⟨rfl, rfl⟩ | exact Or.inr ⟨rfl, rfl⟩) (c_allows_5 (d + 0) n c v u yd k s st hX hB hN hU (by omega) (by omega)) ?_
      refine w_callS (As := [.int (pI ((c 4 s = 0 ∨ c 4 s = c 2 k + 1) ∧ (u 5).testBit s = false ∧ (u (6 + k)).testBit s = false))]) (rest := []) rfl rfl rfl (Nat.le_of_ble_eq_true rfl) (Nat.le_of_ble_eq_true rfl) (c_asNumberP (d + 2) _ st) ?_
      rw [show sp_may n c u (nI k) (nI s) = (pI ((c 4 s = 0 ∨ c 4 s = c 2 k + 1) ∧ (u 5).testBit s = false ∧ (u (6 + k)).testBit s = false)) from by unfold sp_may; rw [if_pos (nI_in3 (by omega) hk), if_pos (nI_in3 (by omega) hs), nI_clamp (show k < 2 ^ 31 by omega), nI_clamp (show s < 2 ^ 31 by omega)]] at hq
      exact w_iret rfl rfl rfl hq
    · replace h2 := pI_eq0.mp (Decidable.not_not.mp h2)
      refine w_blk 1 (pc' := 23) (ls' := [some (.ref 0), some (.int (nI k)), some (.int y)]) (sk' := [.int (-1)]) (st' := st) (fun _ h => h) ?_
      rw [show sp_may n c u (nI k) y = (-1) from by unfold sp_may; rw [if_pos (nI_in3 (by omega) hk), if_neg h2]] at hq
      exact w_iret rfl rfl rfl hq
set_option maxRecDepth 20000 in
/-- may -/
theorem x_may_13 (d : Nat) (n : Nat → Nat) (c : Nat → Nat → Nat) (v : Nat → Int32) (u : Nat → Nat) (yd : Nat) (x y : Int32) (st : mSt) (hcw : st.1 0 1 = nI 13) (hX : X13 st n c) (hB : CB n c) (hN : N21 st v u yd) (hU : ∀ j, 3 ≤ j → j < 12 → u j < 256) : mMC mT (d + 4) 91 [.ref 0, .int x, .int y] st (some (.int (sp_may n c u x y))) st := by
  refine mI_X9_may (d := d + 3) (Nat.le_of_ble_eq_true rfl) (fun Q hq => ?_)
  show mW (mMC mT (d + 3)) (0, fun _ => 0) (mAtL P_X9_may) (some .int) Q 0 [some (.ref 0), some (.int x), some (.int y)] [] st
  have hcr : (st.1 0 1).toNatClampNeg = 13 := by rw [hcw]; rfl
  obtain ⟨hn0, hn1, hn2, hxd, hxs, hxy⟩ := id hX
  obtain ⟨hb0, hb1, hb2, hbd, hbs, hby⟩ := id hB
  refine w_blk 1 (pc' := 1) (ls' := [some (.ref 0), some (.int x), some (.int y)]) (sk' := [.ref 0]) (st' := st) (fun _ h => h) ?_
  refine w_blk 1 (pc' := 4) (ls' := [some (.ref 0), some (.int x), some (.int y)]) (sk' := [.ref (Int32.toNatClampNeg (st.1 0 1))]) (st' := st) (fun _ h => h) ?_
  rw [hcr]
  refine w_blk 1 (pc' := 5) (ls' := [some (.ref 0), some (.int x), some (.int y)]) (sk' := [.int x, .ref 13]) (st' := st) (fun _ h => h) ?_
  refine w_callV (As := [.ref 13, .int x]) (rest := []) rfl rfl rfl (Nat.le_of_ble_eq_true rfl) (Nat.le_of_ble_eq_true rfl) (by first | exact Or.inl ⟨rfl, rfl⟩ | exact Or.inr ⟨rfl, rfl⟩) (c_hasDigger_13 (d + 2) x st) ?_
  rw [hn0]
  refine w_if_eq rfl (fun h1 => ?_) (fun h1 => ?_)
  · replace h1 := pI_eq0.mp h1
    refine w_blk 1 (pc' := 23) (ls' := [some (.ref 0), some (.int x), some (.int y)]) (sk' := [.int (-1)]) (st' := st) (fun _ h => h) ?_
    rw [show sp_may n c u x y = (-1) from if_neg h1] at hq
    exact w_iret rfl rfl rfl hq
  · replace h1 := pI_ne.mp h1
    refine w_blk 1 (pc' := 12) (ls' := [some (.ref 0), some (.int x), some (.int y)]) (sk' := [.ref 0]) (st' := st) (fun _ h => h) ?_
    refine w_blk 1 (pc' := 15) (ls' := [some (.ref 0), some (.int x), some (.int y)]) (sk' := [.ref (Int32.toNatClampNeg (st.1 0 1))]) (st' := st) (fun _ h => h) ?_
    rw [hcr]
    refine w_blk 1 (pc' := 16) (ls' := [some (.ref 0), some (.int x), some (.int y)]) (sk' := [.int y, .ref 13]) (st' := st) (fun _ h => h) ?_
    obtain ⟨k, hk, rfl⟩ := nI_in2 (by omega) h1
    refine w_callV (As := [.ref 13, .int y]) (rest := []) rfl rfl rfl (Nat.le_of_ble_eq_true rfl) (Nat.le_of_ble_eq_true rfl) (by first | exact Or.inl ⟨rfl, rfl⟩ | exact Or.inr ⟨rfl, rfl⟩) (c_hasSpade_13 (d + 2) y st) ?_
    rw [hn1]
    refine w_if_ne rfl (fun h2 => ?_) (fun h2 => ?_)
    · replace h2 := pI_ne.mp h2
      refine w_blk 3 (pc' := 29) (ls' := [some (.ref 0), some (.int (nI k)), some (.int y)]) (sk' := [.ref 0, .ref 21]) (st' := st) (fun _ h => h) ?_
      refine w_blk 1 (pc' := 32) (ls' := [some (.ref 0), some (.int (nI k)), some (.int y)]) (sk' := [.ref (Int32.toNatClampNeg (st.1 0 1)), .ref 21]) (st' := st) (fun _ h => h) ?_
      rw [hcr]
      refine w_blk 2 (pc' := 34) (ls' := [some (.ref 0), some (.int (nI k)), some (.int y)]) (sk' := [.int y, .int (nI k), .ref 13, .ref 21]) (st' := st) (fun _ h => h) ?_
      obtain ⟨s, hs, rfl⟩ := nI_in2 (by omega) h2
      refine w_callV (As := [.ref 21, .ref 13, .int (nI k), .int (nI s)]) (rest := []) rfl rfl rfl (Nat.le_of_ble_eq_true rfl) (Nat.le_of_ble_eq_true rfl) (by first | exact Or.inl ⟨rfl, rfl⟩ | exact Or.inr ⟨rfl, rfl⟩) (c_allows_13 (d + 0) n c v u yd k s st hX hB hN hU (by omega) (by omega)) ?_
      refine w_callS (As := [.int (pI ((c 4 s = 0 ∨ c 4 s = c 2 k + 1) ∧ (u 5).testBit s = false ∧ (u (6 + k)).testBit s = false))]) (rest := []) rfl rfl rfl (Nat.le_of_ble_eq_true rfl) (Nat.le_of_ble_eq_true rfl) (c_asNumberP (d + 2) _ st) ?_
      rw [show sp_may n c u (nI k) (nI s) = (pI ((c 4 s = 0 ∨ c 4 s = c 2 k + 1) ∧ (u 5).testBit s = false ∧ (u (6 + k)).testBit s = false)) from by unfold sp_may; rw [if_pos (nI_in3 (by omega) hk), if_pos (nI_in3 (by omega) hs), nI_clamp (show k < 2 ^ 31 by omega), nI_clamp (show s < 2 ^ 31 by omega)]] at hq
      exact w_iret rfl rfl rfl hq
    · replace h2 := pI_eq0.mp (Decidable.not_not.mp h2)
      refine w_blk 1 (pc' := 23) (ls' := [some (.ref 0), some (.int (nI k)), some (.int y)]) (sk' := [.int (-1)]) (st' := st) (fun _ h => h) ?_
      rw [show sp_may n c u (nI k) y = (-1) from by unfold sp_may; rw [if_pos (nI_in3 (by omega) hk), if_neg h2]] at hq
      exact w_iret rfl rfl rfl hq
end
section
/-! A RUN HAS ONE END: what holds of its end holds of one answer and one state -/
theorem bif_and {b : Bool} {A : Prop} : (bif b then A else False) ↔ (b = true ∧ A) := by cases b <;> simp
theorem bif_nand {b : Bool} {A : Prop} : (bif b then False else A) ↔ (b = false ∧ A) := by cases b <;> simp
def mDet (C : Nat → List Value → mSt → Option Value → mSt → Prop) (S : Nat × (Nat → Int32)) (rt : Option FieldType) (Q : Option Value → mSt → Prop) (K : Nat → mLs → List Value → mSt → Prop) (e : mE) (pc : Nat) (ls : mLs) (sk : List Value) (st : mSt) : Prop :=
  (∃ pc' ls' sk' st', K pc' ls' sk' st' ∧ ∀ (Q' : Option Value → mSt → Prop) (K' : Nat → mLs → List Value → mSt → Prop), K' pc' ls' sk' st' → mStep C S rt Q' K' e pc ls sk st) ∨ (∃ v s, Q v s ∧ ∀ (Q' : Option Value → mSt → Prop) (K' : Nat → mLs → List Value → mSt → Prop), Q' v s → mStep C S rt Q' K' e pc ls sk st)
set_option maxHeartbeats 4000000 in
theorem mStep_det {C : Nat → List Value → mSt → Option Value → mSt → Prop} {S : Nat × (Nat → Int32)} {rt : Option FieldType} {Q : Option Value → mSt → Prop} {K : Nat → mLs → List Value → mSt → Prop} {e : mE} {pc : Nat} {ls : mLs} {sk : List Value} {st : mSt} (h : mStep C S rt Q K e pc ls sk st) : mDet C S rt Q K e pc ls sk st := by
  obtain ⟨i, len, aux, z⟩ := e
  unfold mDet
  cases i
  case ifCond c o =>
    (delta mStep at h ⊢; dsimp only at h ⊢)
    split at h
    · rename_i t x r
      by_cases hc : mIf c x 0
      · exact Or.inl ⟨_, _, _, _, h.1 hc, fun _ _ k => ⟨fun _ => k, fun n => absurd hc n⟩⟩
      · exact Or.inl ⟨_, _, _, _, h.2 hc, fun _ _ k => ⟨fun n => absurd n hc, fun _ => k⟩⟩
    · exact h.elim
  case if_icmp c o =>
    (delta mStep at h ⊢; dsimp only at h ⊢)
    split at h
    · rename_i t y x r
      by_cases hc : mIf c x y
      · exact Or.inl ⟨_, _, _, _, h.1 hc, fun _ _ k => ⟨fun _ => k, fun n => absurd hc n⟩⟩
      · exact Or.inl ⟨_, _, _, _, h.2 hc, fun _ _ k => ⟨fun n => absurd n hc, fun _ => k⟩⟩
    · exact h.elim
  case invokestatic =>
    (delta mStep at h ⊢; dsimp only at h ⊢)
    split at h
    · obtain ⟨h1, h2, v, s1, h3, h4⟩ := h
      exact Or.inl ⟨_, _, _, _, h4, fun _ _ k => ⟨h1, h2, v, s1, h3, k⟩⟩
    · exact h.elim
  case invokevirtual =>
    (delta mStep at h ⊢; dsimp only at h ⊢)
    split at h
    · obtain ⟨h1, h2, h3, v, s1, h4, h5⟩ := h
      exact Or.inl ⟨_, _, _, _, h5, fun _ _ k => ⟨h1, h2, h3, v, s1, h4, k⟩⟩
    · exact h.elim
  case tableswitch d lo hi offs =>
    (delta mStep at h ⊢; dsimp only at h ⊢)
    split at h
    · rename_i x r
      by_cases hc : x.toInt < lo ∨ hi < x.toInt
      · simp only [if_pos hc] at h ⊢
        exact Or.inl ⟨_, _, _, _, h.2, fun _ _ k => ⟨h.1, k⟩⟩
      · simp only [if_neg hc] at h ⊢
        split at h
        · rename_i o ho
          refine Or.inl ⟨_, _, _, _, h.2, fun _ _ k => ?_⟩
          first
            | exact ⟨h.1, k⟩
            | (rw [ho]; exact ⟨h.1, k⟩)
            | (simp only [ho]; exact ⟨h.1, k⟩)
        · exact h.elim
    · exact h.elim
  all_goals first
    | exact False.elim h
    | exact Or.inl ⟨_, _, _, _, h, fun _ _ k => k⟩
    | ((delta mStep at h ⊢; dsimp only at h ⊢)
       repeat' split at h
       all_goals first
         | exact h.elim
         | exact Or.inl ⟨_, _, _, _, h, fun _ _ k => k⟩
         | exact Or.inl ⟨_, _, _, _, h.2, fun _ _ k => ⟨h.1, k⟩⟩
         | exact Or.inl ⟨_, _, _, _, h.2.2, fun _ _ k => ⟨h.1, h.2.1, k⟩⟩
         | exact Or.inr ⟨_, _, h.2, fun _ _ k => ⟨h.1, k⟩⟩
         | (simp only [*, bif_and, bif_nand] at h ⊢
            first
              | exact Or.inl ⟨_, _, _, _, h, fun _ _ k => k⟩
              | exact Or.inl ⟨_, _, _, _, h.2, fun _ _ k => ⟨h.1, k⟩⟩
              | exact Or.inl ⟨_, _, _, _, h.2.2, fun _ _ k => ⟨h.1, h.2.1, k⟩⟩)
         | (simp_all; done))
theorem mOk_ex {C : Nat → List Value → mSt → Option Value → mSt → Prop} {S : Nat × (Nat → Int32)} {P : Nat → Option mE} {rt : Option FieldType} {Q : Option Value → mSt → Prop} : ∀ (n pc : Nat) (ls : mLs) (sk : List Value) (st : mSt), mOk C S P rt Q n pc ls sk st → ∃ v s, Q v s ∧ ∀ Q' : Option Value → mSt → Prop, Q' v s → mOk C S P rt Q' n pc ls sk st := by
  intro n
  induction n with
  | zero => exact fun _ _ _ _ h => h.elim
  | succ n ih =>
    intro pc ls sk st h
    change (match P pc with | none => False | some e => mStep C S rt Q (mOk C S P rt Q n) e pc ls sk st) at h
    cases hp : P pc with
    | none => rw [hp] at h; exact h.elim
    | some e =>
      rw [hp] at h
      rcases mStep_det h with ⟨pc', ls', sk', st', hk, hw⟩ | ⟨v, s, hq, hw⟩
      · obtain ⟨v, s, hv, hx⟩ := ih _ _ _ _ hk
        refine ⟨v, s, hv, fun Q' hq => ?_⟩
        show (match P pc with | none => False | some e => mStep C S rt Q' (mOk C S P rt Q' n) e pc ls sk st)
        rw [hp]
        exact hw _ _ (hx Q' hq)
      · refine ⟨v, s, hq, fun Q' hq' => ?_⟩
        show (match P pc with | none => False | some e => mStep C S rt Q' (mOk C S P rt Q' n) e pc ls sk st)
        rw [hp]
        exact hw _ _ hq'
theorem mW_ex {C : Nat → List Value → mSt → Option Value → mSt → Prop} {S : Nat × (Nat → Int32)} {P : Nat → Option mE} {rt : Option FieldType} {Q : Option Value → mSt → Prop} {pc : Nat} {ls : mLs} {sk : List Value} {st : mSt} (h : mW C S P rt Q pc ls sk st) : ∃ v s, Q v s ∧ ∀ Q' : Option Value → mSt → Prop, Q' v s → mW C S P rt Q' pc ls sk st := by
  obtain ⟨n, hn⟩ := h
  obtain ⟨v, s, hq, hw⟩ := mOk_ex n _ _ _ _ hn
  exact ⟨v, s, hq, fun Q' q => ⟨n, hw Q' q⟩⟩
end
section
/-! FRAMES of the pictures; throws -/
theorem X5_fr {S : List Nat} {st st1 : mSt} {n : Nat → Nat} {c : Nat → Nat → Nat} (hf : Fr S st st1) (hS : ∀ p, p ∈ [5, 6, 7, 8, 9, 10, 11, 12] → p ∉ S) (h : X5 st n c) : X5 st1 n c := by
  unfold X5 at h ⊢
  rw [hf.1 5 (hS 5 (by decide)), hf.1 6 (hS 6 (by decide)), hf.1 7 (hS 7 (by decide)), hf.1 8 (hS 8 (by decide)), hf.1 9 (hS 9 (by decide)), hf.1 10 (hS 10 (by decide)), hf.1 11 (hS 11 (by decide)), hf.1 12 (hS 12 (by decide))]
  exact h
theorem X13_fr {S : List Nat} {st st1 : mSt} {n : Nat → Nat} {c : Nat → Nat → Nat} (hf : Fr S st st1) (hS : ∀ p, p ∈ [13, 14, 15, 16, 17, 18, 19, 20] → p ∉ S) (h : X13 st n c) : X13 st1 n c := by
  unfold X13 at h ⊢
  rw [hf.1 13 (hS 13 (by decide)), hf.1 14 (hS 14 (by decide)), hf.1 15 (hS 15 (by decide)), hf.1 16 (hS 16 (by decide)), hf.1 17 (hS 17 (by decide)), hf.1 18 (hS 18 (by decide)), hf.1 19 (hS 19 (by decide)), hf.1 20 (hS 20 (by decide))]
  exact h
theorem MR_fr {S : List Nat} {st st1 : mSt} {n : Nat → Nat} {c : Nat → Nat → Nat} (hf : Fr S st st1) (hS : ∀ p, p ∈ [55, 59, 62, 56, 57, 58, 60, 61, 63, 64] → p ∉ S) (h : MR st n c) : MR st1 n c := by
  unfold MR at h ⊢
  rw [hf.1 55 (hS 55 (by decide)), hf.1 59 (hS 59 (by decide)), hf.1 62 (hS 62 (by decide)), hf.1 56 (hS 56 (by decide)), hf.1 57 (hS 57 (by decide)), hf.1 58 (hS 58 (by decide)), hf.1 60 (hS 60 (by decide)), hf.1 61 (hS 61 (by decide)), hf.1 63 (hS 63 (by decide)), hf.1 64 (hS 64 (by decide))]
  exact h
theorem N21_fr {S : List Nat} {st st1 : mSt} {v : Nat → Int32} {u : Nat → Nat} {yd : Nat} (hf : Fr S st st1) (hS : ∀ p, p ∈ [21, 22, 23] → p ∉ S) (h : N21 st v u yd) : N21 st1 v u yd := by
  unfold N21 at h ⊢
  rw [hf.1 21 (hS 21 (by decide)), hf.1 22 (hS 22 (by decide)), hf.1 23 (hS 23 (by decide))]
  exact h
theorem N25_fr {S : List Nat} {st st1 : mSt} {v : Nat → Int32} {u : Nat → Nat} {yd : Nat} (hf : Fr S st st1) (hS : ∀ p, p ∈ [25, 26, 27] → p ∉ S) (h : N25 st v u yd) : N25 st1 v u yd := by
  unfold N25 at h ⊢
  rw [hf.1 25 (hS 25 (by decide)), hf.1 26 (hS 26 (by decide)), hf.1 27 (hS 27 (by decide))]
  exact h
theorem N28_fr {S : List Nat} {st st1 : mSt} {v : Nat → Int32} {u : Nat → Nat} {yd : Nat} (hf : Fr S st st1) (hS : ∀ p, p ∈ [28, 29, 30] → p ∉ S) (h : N28 st v u yd) : N28 st1 v u yd := by
  unfold N28 at h ⊢
  rw [hf.1 28 (hS 28 (by decide)), hf.1 29 (hS 29 (by decide)), hf.1 30 (hS 30 (by decide))]
  exact h
theorem NM0_fr {S : List Nat} {st st1 : mSt} {v : Nat → Int32} {u : Nat → Nat} (hf : Fr S st st1) (hS : ∀ p, p ∈ [65] → p ∉ S) (h : NM0 st v u) : NM0 st1 v u := by
  unfold NM0 at h ⊢
  rw [hf.1 65 (hS 65 (by decide))]
  exact h
theorem NM1_fr {S : List Nat} {st st1 : mSt} {v : Nat → Int32} {u : Nat → Nat} (hf : Fr S st st1) (hS : ∀ p, p ∈ [65] → p ∉ S) (h : NM1 st v u) : NM1 st1 v u := by
  unfold NM1 at h ⊢
  rw [hf.1 65 (hS 65 (by decide))]
  exact h
theorem NM2_fr {S : List Nat} {st st1 : mSt} {v : Nat → Int32} {u : Nat → Nat} (hf : Fr S st st1) (hS : ∀ p, p ∈ [65] → p ∉ S) (h : NM2 st v u) : NM2 st1 v u := by
  unfold NM2 at h ⊢
  rw [hf.1 65 (hS 65 (by decide))]
  exact h
theorem pI_eq1 {p : Prop} [Decidable p] : pI p = 1 ↔ p := by
  by_cases h : p
  · rw [pI_t h]
    exact ⟨fun _ => h, fun _ => rfl⟩
  · rw [pI_f h]
    exact ⟨fun e => absurd e (by decide), fun q => absurd q h⟩
theorem pI_in2 {a b : Nat} (ha : a < 2 ^ 31) (hb : b < 2 ^ 31) : pI (0 ≤ nI a ∧ nI a < nI b) = pI (a < b) := pI_cong ⟨fun h => (nI_ltI ha hb).mp h.2, fun h => nI_in3 hb h⟩
theorem updN_comm {u : Nat → Nat} {i j a b : Nat} (h : i ≠ j) : updN (updN u i a) j b = updN (updN u j b) i a := by
  funext k
  unfold updN
  by_cases h1 : k = j
  · rw [if_pos h1, if_neg (show ¬ k = i by omega), if_pos h1]
  · rw [if_neg h1]
    by_cases h2 : k = i
    · rw [if_pos h2, if_pos h2]
    · rw [if_neg h2, if_neg h2, if_neg h1]
theorem c_quotK (d a b : Nat) (st : mSt) (ha : a < 2 ^ 31) (h0 : 0 < b) (hb : b < 2 ^ 31) : mMC mT (d + 1) 128 [.int (nI a), .int (nI b)] st (some (.int (nI (a / b)))) st := by
  have h := c_quot d (nI a) (nI b) st
  rw [if_neg (show ¬ nI b < 1 from fun hh => absurd ((nI_ltI (b := 1) hb (by decide)).mp hh) (by omega)), pk_div ha h0 hb] at h
  exact h
theorem c_remK (d a b : Nat) (st : mSt) (ha : a < 2 ^ 31) (h0 : 0 < b) (hb : b < 2 ^ 31) : mMC mT (d + 1) 129 [.int (nI a), .int (nI b)] st (some (.int (nI (a % b)))) st := by
  have h := c_rem d (nI a) (nI b) st
  rw [if_neg (show ¬ nI b < 1 from fun hh => absurd ((nI_ltI (b := 1) hb (by decide)).mp hh) (by omega)), pk_rem ha h0 hb] at h
  exact h
theorem c_maxK (d a b : Nat) (st : mSt) (ha : a < 2 ^ 31) (hb : b < 2 ^ 31) : mMC mT (d + 1) 3 [.int (nI a), .int (nI b)] st (some (.int (nI (max a b)))) st := by
  have h := c_max d (nI a) (nI b) st
  by_cases hc : a < b
  · rw [if_pos ((nI_ltI ha hb).mpr hc)] at h
    rw [show max a b = b by omega]
    exact h
  · rw [if_neg (fun hh => hc ((nI_ltI ha hb).mp hh))] at h
    rw [show max a b = a by omega]
    exact h
theorem c_minK (d a b : Nat) (st : mSt) (ha : a < 2 ^ 31) (hb : b < 2 ^ 31) : mMC mT (d + 1) 4 [.int (nI a), .int (nI b)] st (some (.int (nI (min a b)))) st := by
  have h := c_min d (nI a) (nI b) st
  by_cases hc : b < a
  · rw [if_pos ((nI_ltI hb ha).mpr hc)] at h
    rw [show min a b = b by omega]
    exact h
  · rw [if_neg (fun hh => hc ((nI_ltI hb ha).mp hh))] at h
    rw [show min a b = a by omega]
    exact h
def th_e (n : Nat → Nat) (c : Nat → Nat → Nat) (yd k s : Nat) : Nat := if yd < n 2 then max 1 (c 0 k * c 3 s / c 6 yd) else c 0 k * c 3 s
def th_u (u : Nat → Nat) (k s : Nat) : Nat → Nat := updN (updN (updN u 3 (u 3 ||| 2 ^ k)) 4 (u 4 ||| 2 ^ s)) (6 + k) (u (6 + k) ||| 2 ^ s)
def dg_a (c : Nat → Nat → Nat) (u : Nat → Nat) (yd e : Nat) : Nat := min (u (12 + yd) + e) (c 5 yd)
def dg_u (n : Nat → Nat) (c : Nat → Nat → Nat) (u : Nat → Nat) (yd e : Nat) : Nat → Nat := if yd < n 2 then updN u (12 + yd) (dg_a c u yd e) else u
def dg_v (n : Nat → Nat) (c : Nat → Nat → Nat) (v : Nat → Int32) (u : Nat → Nat) (yd e : Nat) : Nat → Int32 := if yd < n 2 then updI v 2 (v 2 + nI (dg_a c u yd e - u (12 + yd))) else v
def dg_y (n : Nat → Nat) (c : Nat → Nat → Nat) (u : Nat → Nat) (yd e : Nat) : Nat := if yd < n 2 then (if dg_a c u yd e = c 5 yd then yd + 1 else yd) else yd
abbrev canP (c : Nat → Nat → Nat) (u : Nat → Nat) (k s : Nat) : Prop := ((c 4 s = 0 ∨ c 4 s = c 2 k + 1) ∧ (u 5).testBit s = false ∧ (u (6 + k)).testBit s = false) ∧ (u 3).testBit k = false ∧ (u 4).testBit s = false
abbrev thC (n : Nat → Nat) (c : Nat → Nat → Nat) (u : Nat → Nat) (x y : Int32) : Prop := ok0 n x ∧ ok1 n y ∧ canP c u x.toNatClampNeg y.toNatClampNeg
def sp_throw (n : Nat → Nat) (c : Nat → Nat → Nat) (u : Nat → Nat) (yd : Nat) (x y : Int32) : Int32 := if ok0 n x then (if ok1 n y then (if canP c u x.toNatClampNeg y.toNatClampNeg then nI (th_e n c yd x.toNatClampNeg y.toNatClampNeg) else -2) else -1) else -1
theorem th_prod {n : Nat → Nat} {c : Nat → Nat → Nat} {k s : Nat} (hB : CB n c) (hk : k < n 0) (hs : s < n 1) : 1 ≤ c 0 k * c 3 s ∧ c 0 k * c 3 s ≤ 81 := by
  obtain ⟨hb0, hb1, hb2, hbd, hbs, hby⟩ := hB
  have h1 := hbd k hk
  have h2 := hbs s hs
  exact ⟨Nat.mul_pos (by omega) (by omega), Nat.mul_le_mul (show c 0 k ≤ 9 by omega) (show c 3 s ≤ 9 by omega)⟩
theorem th_e_le {n : Nat → Nat} {c : Nat → Nat → Nat} {yd k s : Nat} (hB : CB n c) (hk : k < n 0) (hs : s < n 1) : th_e n c yd k s ≤ 81 := by
  have h := th_prod hB hk hs
  have h2 : c 0 k * c 3 s / c 6 yd ≤ c 0 k * c 3 s := Nat.div_le_self _ _
  unfold th_e
  repeat' split
  all_goals omega
set_option maxRecDepth 20000 in
/-- earthOf(crew, k, s) -/
theorem c_earthOf_5 (d : Nat) (n : Nat → Nat) (c : Nat → Nat → Nat) (v : Nat → Int32) (u : Nat → Nat) (yd : Nat) (k s : Nat) (st : mSt) (hX : X5 st n c) (hB : CB n c) (hN : N21 st v u yd) (hU : ∀ j, 3 ≤ j → j < 12 → u j < 256) (hyd : yd ≤ n 2) (hk : k < n 0) (hs : s < n 1) : mMC mT (d + 3) 49 [.ref 21, .ref 5, .int (nI k), .int (nI s)] st (some (.int (nI (th_e n c yd k s)))) st := by
  refine mI_X5_earthOf (d := d + 2) (Nat.le_of_ble_eq_true rfl) (fun Q hq => ?_)
  show mW (mMC mT (d + 2)) (0, fun _ => 0) (mAtL P_X5_earthOf) (some .int) Q 0 [some (.ref 21), some (.ref 5), some (.int (nI k)), some (.int (nI s)), none] [] st
  obtain ⟨hb0, hb1, hb2, hbd, hbs, hby⟩ := id hB
  have hpr := th_prod hB hk hs
  refine w_blk 3 (pc' := 5) (ls' := [some (.ref 21), some (.ref 5), some (.int (nI k)), some (.int (nI s)), none]) (sk' := [.int (st.1 21 3), .ref 5]) (st' := st) (fun _ h => h) ?_
  rw [hN.2.2.2.1]
  refine w_callV (As := [.ref 5, .int (nI yd)]) (rest := []) rfl rfl rfl (Nat.le_of_ble_eq_true rfl) (Nat.le_of_ble_eq_true rfl) (by first | exact Or.inl ⟨rfl, rfl⟩ | exact Or.inr ⟨rfl, rfl⟩) (c_hasYard_5 (d + 1) (nI yd) st) ?_
  rw [hX.2.2.1]
  rw [pI_in2 (a := yd) (b := n 2) (by omega) (by omega)]
  refine w_if_eq rfl (fun h1 => ?_) (fun h1 => ?_)
  · replace h1 := pI_eq0.mp h1
    refine w_blk 6 (pc' := 32) (ls' := [some (.ref 21), some (.ref 5), some (.int (nI k)), some (.int (nI s)), some (.int 1)]) (sk' := [.int (nI s), .int (nI k), .ref 5, .int 1]) (st' := st) (fun _ h => h) ?_
    refine w_callV (As := [.ref 5, .int (nI k), .int (nI s)]) (rest := [.int 1]) rfl rfl rfl (Nat.le_of_ble_eq_true rfl) (Nat.le_of_ble_eq_true rfl) (by first | exact Or.inl ⟨rfl, rfl⟩ | exact Or.inr ⟨rfl, rfl⟩) (c_productK_5 (d + 0) n c k s st hX hB (by omega) (by omega)) ?_
    refine w_blk 1 (pc' := 37) (ls' := [some (.ref 21), some (.ref 5), some (.int (nI k)), some (.int (nI s)), some (.int 1)]) (sk' := [.int 1, .int (nI (c 0 k * c 3 s)), .int 1]) (st' := st) (fun _ h => h) ?_
    refine w_callS (As := [.int (nI (c 0 k * c 3 s)), .int 1]) (rest := [.int 1]) rfl rfl rfl (Nat.le_of_ble_eq_true rfl) (Nat.le_of_ble_eq_true rfl) (c_quotK (d + 1) (c 0 k * c 3 s) 1 st (by omega) (by omega) (by omega)) ?_
    have hdv : c 0 k * c 3 s / 1 ≤ c 0 k * c 3 s := Nat.div_le_self _ _
    refine w_callS (As := [.int 1, .int (nI ((c 0 k * c 3 s) / 1))]) (rest := []) rfl rfl rfl (Nat.le_of_ble_eq_true rfl) (Nat.le_of_ble_eq_true rfl) (c_maxK (d + 1) 1 ((c 0 k * c 3 s) / 1) st (by omega) (by omega)) ?_
    rw [show th_e n c yd k s = max 1 (c 0 k * c 3 s / 1) by rw [Nat.div_one]; exact (if_neg h1).trans (by omega)] at hq
    exact w_iret rfl rfl rfl hq
  · replace h1 := pI_ne.mp h1
    refine w_blk 4 (pc' := 19) (ls' := [some (.ref 21), some (.ref 5), some (.int (nI k)), some (.int (nI s)), none]) (sk' := [.int (st.1 21 3), .ref 12]) (st' := st) (fun _ h => h) ?_
    rw [hN.2.2.2.1]
    refine w_callS (As := [.ref 12, .int (nI yd)]) (rest := []) rfl rfl rfl (Nat.le_of_ble_eq_true rfl) (Nat.le_of_ble_eq_true rfl) (c_cellK (d + 1) 12 8 yd st (by omega) (by decide) rfl) ?_
    rw [(hX.2.2.2.2.2 yd (by omega)).2]
    refine w_blk 6 (pc' := 32) (ls' := [some (.ref 21), some (.ref 5), some (.int (nI k)), some (.int (nI s)), some (.int (nI (c 6 yd)))]) (sk' := [.int (nI s), .int (nI k), .ref 5, .int 1]) (st' := st) (fun _ h => h) ?_
    refine w_callV (As := [.ref 5, .int (nI k), .int (nI s)]) (rest := [.int 1]) rfl rfl rfl (Nat.le_of_ble_eq_true rfl) (Nat.le_of_ble_eq_true rfl) (by first | exact Or.inl ⟨rfl, rfl⟩ | exact Or.inr ⟨rfl, rfl⟩) (c_productK_5 (d + 0) n c k s st hX hB (by omega) (by omega)) ?_
    refine w_blk 1 (pc' := 37) (ls' := [some (.ref 21), some (.ref 5), some (.int (nI k)), some (.int (nI s)), some (.int (nI (c 6 yd)))]) (sk' := [.int (nI (c 6 yd)), .int (nI (c 0 k * c 3 s)), .int 1]) (st' := st) (fun _ h => h) ?_
    have h6 := (hby yd h1).2.2
    refine w_callS (As := [.int (nI (c 0 k * c 3 s)), .int (nI (c 6 yd))]) (rest := [.int 1]) rfl rfl rfl (Nat.le_of_ble_eq_true rfl) (Nat.le_of_ble_eq_true rfl) (c_quotK (d + 1) (c 0 k * c 3 s) (c 6 yd) st (by omega) (by omega) (by omega)) ?_
    have hdv : c 0 k * c 3 s / c 6 yd ≤ c 0 k * c 3 s := Nat.div_le_self _ _
    refine w_callS (As := [.int 1, .int (nI ((c 0 k * c 3 s) / (c 6 yd)))]) (rest := []) rfl rfl rfl (Nat.le_of_ble_eq_true rfl) (Nat.le_of_ble_eq_true rfl) (c_maxK (d + 1) 1 ((c 0 k * c 3 s) / (c 6 yd)) st (by omega) (by omega)) ?_
    rw [show th_e n c yd k s = max 1 (c 0 k * c 3 s / c 6 yd) from if_pos h1] at hq
    exact w_iret rfl rfl rfl hq
set_option maxRecDepth 20000 in
/-- earthOf(crew, k, s) -/
theorem c_earthOf_13 (d : Nat) (n : Nat → Nat) (c : Nat → Nat → Nat) (v : Nat → Int32) (u : Nat → Nat) (yd : Nat) (k s : Nat) (st : mSt) (hX : X13 st n c) (hB : CB n c) (hN : N21 st v u yd) (hU : ∀ j, 3 ≤ j → j < 12 → u j < 256) (hyd : yd ≤ n 2) (hk : k < n 0) (hs : s < n 1) : mMC mT (d + 3) 49 [.ref 21, .ref 13, .int (nI k), .int (nI s)] st (some (.int (nI (th_e n c yd k s)))) st := by
  refine mI_X5_earthOf (d := d + 2) (Nat.le_of_ble_eq_true rfl) (fun Q hq => ?_)
  show mW (mMC mT (d + 2)) (0, fun _ => 0) (mAtL P_X5_earthOf) (some .int) Q 0 [some (.ref 21), some (.ref 13), some (.int (nI k)), some (.int (nI s)), none] [] st
  obtain ⟨hb0, hb1, hb2, hbd, hbs, hby⟩ := id hB
  have hpr := th_prod hB hk hs
  refine w_blk 3 (pc' := 5) (ls' := [some (.ref 21), some (.ref 13), some (.int (nI k)), some (.int (nI s)), none]) (sk' := [.int (st.1 21 3), .ref 13]) (st' := st) (fun _ h => h) ?_
  rw [hN.2.2.2.1]
  refine w_callV (As := [.ref 13, .int (nI yd)]) (rest := []) rfl rfl rfl (Nat.le_of_ble_eq_true rfl) (Nat.le_of_ble_eq_true rfl) (by first | exact Or.inl ⟨rfl, rfl⟩ | exact Or.inr ⟨rfl, rfl⟩) (c_hasYard_13 (d + 1) (nI yd) st) ?_
  rw [hX.2.2.1]
  rw [pI_in2 (a := yd) (b := n 2) (by omega) (by omega)]
  refine w_if_eq rfl (fun h1 => ?_) (fun h1 => ?_)
  · replace h1 := pI_eq0.mp h1
    refine w_blk 6 (pc' := 32) (ls' := [some (.ref 21), some (.ref 13), some (.int (nI k)), some (.int (nI s)), some (.int 1)]) (sk' := [.int (nI s), .int (nI k), .ref 13, .int 1]) (st' := st) (fun _ h => h) ?_
    refine w_callV (As := [.ref 13, .int (nI k), .int (nI s)]) (rest := [.int 1]) rfl rfl rfl (Nat.le_of_ble_eq_true rfl) (Nat.le_of_ble_eq_true rfl) (by first | exact Or.inl ⟨rfl, rfl⟩ | exact Or.inr ⟨rfl, rfl⟩) (c_productK_13 (d + 0) n c k s st hX hB (by omega) (by omega)) ?_
    refine w_blk 1 (pc' := 37) (ls' := [some (.ref 21), some (.ref 13), some (.int (nI k)), some (.int (nI s)), some (.int 1)]) (sk' := [.int 1, .int (nI (c 0 k * c 3 s)), .int 1]) (st' := st) (fun _ h => h) ?_
    refine w_callS (As := [.int (nI (c 0 k * c 3 s)), .int 1]) (rest := [.int 1]) rfl rfl rfl (Nat.le_of_ble_eq_true rfl) (Nat.le_of_ble_eq_true rfl) (c_quotK (d + 1) (c 0 k * c 3 s) 1 st (by omega) (by omega) (by omega)) ?_
    have hdv : c 0 k * c 3 s / 1 ≤ c 0 k * c 3 s := Nat.div_le_self _ _
    refine w_callS (As := [.int 1, .int (nI ((c 0 k * c 3 s) / 1))]) (rest := []) rfl rfl rfl (Nat.le_of_ble_eq_true rfl) (Nat.le_of_ble_eq_true rfl) (c_maxK (d + 1) 1 ((c 0 k * c 3 s) / 1) st (by omega) (by omega)) ?_
    rw [show th_e n c yd k s = max 1 (c 0 k * c 3 s / 1) by rw [Nat.div_one]; exact (if_neg h1).trans (by omega)] at hq
    exact w_iret rfl rfl rfl hq
  · replace h1 := pI_ne.mp h1
    refine w_blk 4 (pc' := 19) (ls' := [some (.ref 21), some (.ref 13), some (.int (nI k)), some (.int (nI s)), none]) (sk' := [.int (st.1 21 3), .ref 20]) (st' := st) (fun _ h => h) ?_
    rw [hN.2.2.2.1]
    refine w_callS (As := [.ref 20, .int (nI yd)]) (rest := []) rfl rfl rfl (Nat.le_of_ble_eq_true rfl) (Nat.le_of_ble_eq_true rfl) (c_cellK (d + 1) 20 8 yd st (by omega) (by decide) rfl) ?_
    rw [(hX.2.2.2.2.2 yd (by omega)).2]
    refine w_blk 6 (pc' := 32) (ls' := [some (.ref 21), some (.ref 13), some (.int (nI k)), some (.int (nI s)), some (.int (nI (c 6 yd)))]) (sk' := [.int (nI s), .int (nI k), .ref 13, .int 1]) (st' := st) (fun _ h => h) ?_
    refine w_callV (As := [.ref 13, .int (nI k), .int (nI s)]) (rest := [.int 1]) rfl rfl rfl (Nat.le_of_ble_eq_true rfl) (Nat.le_of_ble_eq_true rfl) (by first | exact Or.inl ⟨rfl, rfl⟩ | exact Or.inr ⟨rfl, rfl⟩) (c_productK_13 (d + 0) n c k s st hX hB (by omega) (by omega)) ?_
    refine w_blk 1 (pc' := 37) (ls' := [some (.ref 21), some (.ref 13), some (.int (nI k)), some (.int (nI s)), some (.int (nI (c 6 yd)))]) (sk' := [.int (nI (c 6 yd)), .int (nI (c 0 k * c 3 s)), .int 1]) (st' := st) (fun _ h => h) ?_
    have h6 := (hby yd h1).2.2
    refine w_callS (As := [.int (nI (c 0 k * c 3 s)), .int (nI (c 6 yd))]) (rest := [.int 1]) rfl rfl rfl (Nat.le_of_ble_eq_true rfl) (Nat.le_of_ble_eq_true rfl) (c_quotK (d + 1) (c 0 k * c 3 s) (c 6 yd) st (by omega) (by omega) (by omega)) ?_
    have hdv : c 0 k * c 3 s / c 6 yd ≤ c 0 k * c 3 s := Nat.div_le_self _ _
    refine w_callS (As := [.int 1, .int (nI ((c 0 k * c 3 s) / (c 6 yd)))]) (rest := []) rfl rfl rfl (Nat.le_of_ble_eq_true rfl) (Nat.le_of_ble_eq_true rfl) (c_maxK (d + 1) 1 ((c 0 k * c 3 s) / (c 6 yd)) st (by omega) (by omega)) ?_
    rw [show th_e n c yd k s = max 1 (c 0 k * c 3 s / c 6 yd) from if_pos h1] at hq
    exact w_iret rfl rfl rfl hq
set_option maxRecDepth 20000 in
/-- noteThrow(k, j) -/
theorem c_noteThrow (d : Nat) (n : Nat → Nat) (c : Nat → Nat → Nat) (v : Nat → Int32) (u : Nat → Nat) (yd : Nat) (k j : Nat) (st : mSt) (hB : CB n c) (hN : N21 st v u yd) (hU : ∀ j, 3 ≤ j → j < 12 → u j < 256) (hyd : yd ≤ n 2) (hk : k < n 0) (hj : j < n 1) : ∃ (s : mSt), mMC mT (d + 2) 50 [.ref 21, .int (nI k), .int (nI j)] st (none) s ∧ N21 s v (th_u u k j) yd ∧ Fr [21, 22, 23] st s := by
  suffices H : ∀ Q : Option Value → mSt → Prop, (∀ (s : mSt), (N21 s v (th_u u k j) yd ∧ Fr [21, 22, 23] st s) → Q (none) s) → mW (mMC mT (d + 1)) (0, fun _ => 0) (mAtL P_X5_noteThrow) none Q 0 [some (.ref 21), some (.int (nI k)), some (.int (nI j))] [] st by
    obtain ⟨_, _, ⟨s, rfl, rfl, hp⟩, hw⟩ := mW_ex (H (fun vv tt => ∃ (s : mSt),  vv = none ∧ s = tt ∧ N21 s v (th_u u k j) yd ∧ Fr [21, 22, 23] st s) (fun s hp => ⟨s, rfl, rfl, hp⟩))
    exact ⟨s, mI_X5_noteThrow (d := d + 1) (Nat.le_of_ble_eq_true rfl) hw, hp⟩
  intro Q hq
  obtain ⟨hb0, hb1, hb2, hbd, hbs, hby⟩ := id hB
  refine w_blk 3 (pc' := 5) (ls' := [some (.ref 21), some (.int (nI k)), some (.int (nI j))]) (sk' := [.int (st.1 21 4), .ref 21]) (st' := st) (fun _ h => h) ?_
  rw [hN.2.2.2.2.1]
  refine w_blk 3 (pc' := 8) (ls' := [some (.ref 21), some (.int (nI k)), some (.int (nI j))]) (sk' := [.int (1 <<< ((nI k) &&& 31)), .int (nI (u 3)), .ref 21]) (st' := st) (fun _ h => h) ?_
  rw [show (1 <<< ((nI k) &&& 31)) = nI (2 ^ k) from nI_shl1 (by omega)]
  refine w_blk 1 (pc' := 9) (ls' := [some (.ref 21), some (.int (nI k)), some (.int (nI j))]) (sk' := [.int ((nI (u 3)) ||| (nI (2 ^ k))), .ref 21]) (st' := st) (fun _ h => h) ?_
  rw [show ((nI (u 3)) ||| (nI (2 ^ k))) = nI ((u 3) ||| (2 ^ k)) from nI_or (u 3) (2 ^ k)]
  refine w_blk 1 (pc' := 12) (ls' := [some (.ref 21), some (.int (nI k)), some (.int (nI j))]) (sk' := []) (st' := ((mU st.1 21 4 (nI ((u 3) ||| (2 ^ k)))), st.2)) (fun _ h => h) ?_
  have hN_2 : N21 ((mU st.1 21 4 (nI ((u 3) ||| (2 ^ k)))), st.2) v (updN u 3 (u 3 ||| 2 ^ k)) yd := N21_who hN _
  have hf_3 : Fr [21, 22, 23] st ((mU st.1 21 4 (nI ((u 3) ||| (2 ^ k)))), st.2) := (Fr.trans (Fr.rf : Fr [21, 22, 23] st st) (Fr.mU (by decide)))
  generalize ((mU st.1 21 4 (nI ((u 3) ||| (2 ^ k)))), st.2) = s1 at hN_2 hf_3 ⊢
  refine w_blk 3 (pc' := 17) (ls' := [some (.ref 21), some (.int (nI k)), some (.int (nI j))]) (sk' := [.int (s1.1 21 5), .ref 21]) (st' := s1) (fun _ h => h) ?_
  rw [(show s1.1 21 5 = nI (u 4) from hN_2.2.2.2.2.2.1.trans (by rw [updN_n (by decide)]))]
  refine w_blk 3 (pc' := 20) (ls' := [some (.ref 21), some (.int (nI k)), some (.int (nI j))]) (sk' := [.int (1 <<< ((nI j) &&& 31)), .int (nI (u 4)), .ref 21]) (st' := s1) (fun _ h => h) ?_
  rw [show (1 <<< ((nI j) &&& 31)) = nI (2 ^ j) from nI_shl1 (by omega)]
  refine w_blk 1 (pc' := 21) (ls' := [some (.ref 21), some (.int (nI k)), some (.int (nI j))]) (sk' := [.int ((nI (u 4)) ||| (nI (2 ^ j))), .ref 21]) (st' := s1) (fun _ h => h) ?_
  rw [show ((nI (u 4)) ||| (nI (2 ^ j))) = nI ((u 4) ||| (2 ^ j)) from nI_or (u 4) (2 ^ j)]
  refine w_blk 1 (pc' := 24) (ls' := [some (.ref 21), some (.int (nI k)), some (.int (nI j))]) (sk' := []) (st' := ((mU s1.1 21 5 (nI ((u 4) ||| (2 ^ j)))), s1.2)) (fun _ h => h) ?_
  have hN_5 : N21 ((mU s1.1 21 5 (nI ((u 4) ||| (2 ^ j)))), s1.2) v (updN (updN u 3 (u 3 ||| 2 ^ k)) 4 (u 4 ||| 2 ^ j)) yd := N21_wth hN_2 _
  have hf_6 : Fr [21, 22, 23] st ((mU s1.1 21 5 (nI ((u 4) ||| (2 ^ j)))), s1.2) := (Fr.trans hf_3 (Fr.mU (by decide)))
  generalize ((mU s1.1 21 5 (nI ((u 4) ||| (2 ^ j)))), s1.2) = s4 at hN_5 hf_6 ⊢
  refine w_blk 6 (pc' := 34) (ls' := [some (.ref 21), some (.int (nI k)), some (.int (nI j))]) (sk' := [.int (nI k), .ref 22, .int (nI k), .ref 22]) (st' := s4) (fun _ h => h) ?_
  refine w_callS (As := [.ref 22, .int (nI k)]) (rest := [.int (nI k), .ref 22]) rfl rfl rfl (Nat.le_of_ble_eq_true rfl) (Nat.le_of_ble_eq_true rfl) (c_cellK (d + 0) 22 6 k s4 (by omega) (by decide) rfl) ?_
  rw [(show s4.1 22 k = nI (u (6 + k)) from (hN_5.2.2.2.2.2.2.2.1 k (by omega)).trans (by rw [updN_n (by omega), updN_n (by omega)]))]
  refine w_blk 3 (pc' := 40) (ls' := [some (.ref 21), some (.int (nI k)), some (.int (nI j))]) (sk' := [.int (1 <<< ((nI j) &&& 31)), .int (nI (u (6 + k))), .int (nI k), .ref 22]) (st' := s4) (fun _ h => h) ?_
  rw [show (1 <<< ((nI j) &&& 31)) = nI (2 ^ j) from nI_shl1 (by omega)]
  refine w_blk 1 (pc' := 41) (ls' := [some (.ref 21), some (.int (nI k)), some (.int (nI j))]) (sk' := [.int ((nI (u (6 + k))) ||| (nI (2 ^ j))), .int (nI k), .ref 22]) (st' := s4) (fun _ h => h) ?_
  rw [show ((nI (u (6 + k))) ||| (nI (2 ^ j))) = nI ((u (6 + k)) ||| (2 ^ j)) from nI_or (u (6 + k)) (2 ^ j)]
  refine w_callS (As := [.ref 22, .int (nI k), .int (nI ((u (6 + k)) ||| (2 ^ j)))]) (rest := []) rfl rfl rfl (Nat.le_of_ble_eq_true rfl) (Nat.le_of_ble_eq_true rfl) (c_putK (d + 0) 22 6 k (nI ((u (6 + k)) ||| (2 ^ j))) s4 (by omega) (by decide) rfl) ?_
  have hN_8 : N21 ((mU s4.1 22 k (nI ((u (6 + k)) ||| (2 ^ j)))), s4.2) v (th_u u k j) yd := N21_thr hN_5 _ _ (by omega)
  have hf_9 : Fr [21, 22, 23] st ((mU s4.1 22 k (nI ((u (6 + k)) ||| (2 ^ j)))), s4.2) := (Fr.trans hf_6 (Fr.mU (by decide)))
  generalize ((mU s4.1 22 k (nI ((u (6 + k)) ||| (2 ^ j)))), s4.2) = s7 at hN_8 hf_9 ⊢
  exact w_vret rfl rfl (hq _ ⟨hN_8, hf_9⟩)
set_option maxRecDepth 20000 in
/-- dig(crew, e) -/
theorem c_dig_5 (d : Nat) (n : Nat → Nat) (c : Nat → Nat → Nat) (v : Nat → Int32) (u : Nat → Nat) (yd : Nat) (e : Nat) (st : mSt) (hX : X5 st n c) (hB : CB n c) (hN : N21 st v u yd) (hU : ∀ j, 3 ≤ j → j < 12 → u j < 256) (hyd : yd ≤ n 2) (hyb : yd < n 2 → u (12 + yd) < c 5 yd) (he : e ≤ 81) : ∃ (s : mSt), mMC mT (d + 2) 51 [.ref 21, .ref 5, .int (nI e)] st (none) s ∧ N21 s (dg_v n c v u yd e) (dg_u n c u yd e) (dg_y n c u yd e) ∧ Fr [21, 22, 23] st s := by
  suffices H : ∀ Q : Option Value → mSt → Prop, (∀ (s : mSt), (N21 s (dg_v n c v u yd e) (dg_u n c u yd e) (dg_y n c u yd e) ∧ Fr [21, 22, 23] st s) → Q (none) s) → mW (mMC mT (d + 1)) (0, fun _ => 0) (mAtL P_X5_dig) none Q 0 [some (.ref 21), some (.ref 5), some (.int (nI e)), none, none] [] st by
    obtain ⟨_, _, ⟨s, rfl, rfl, hp⟩, hw⟩ := mW_ex (H (fun vv tt => ∃ (s : mSt),  vv = none ∧ s = tt ∧ N21 s (dg_v n c v u yd e) (dg_u n c u yd e) (dg_y n c u yd e) ∧ Fr [21, 22, 23] st s) (fun s hp => ⟨s, rfl, rfl, hp⟩))
    exact ⟨s, mI_X5_dig (d := d + 1) (Nat.le_of_ble_eq_true rfl) hw, hp⟩
  intro Q hq
  obtain ⟨hb0, hb1, hb2, hbd, hbs, hby⟩ := id hB
  have hyb2 : yd < n 2 → u (12 + yd) < c 5 yd ∧ c 5 yd ≤ 99 := fun h => ⟨hyb h, (hby yd h).2.1⟩
  refine w_blk 3 (pc' := 5) (ls' := [some (.ref 21), some (.ref 5), some (.int (nI e)), none, none]) (sk' := [.int (st.1 21 3), .ref 5]) (st' := st) (fun _ h => h) ?_
  rw [hN.2.2.2.1]
  refine w_callV (As := [.ref 5, .int (nI yd)]) (rest := []) rfl rfl rfl (Nat.le_of_ble_eq_true rfl) (Nat.le_of_ble_eq_true rfl) (by first | exact Or.inl ⟨rfl, rfl⟩ | exact Or.inr ⟨rfl, rfl⟩) (c_hasYard_5 (d + 0) (nI yd) st) ?_
  rw [hX.2.2.1]
  rw [pI_in2 (a := yd) (b := n 2) (by omega) (by omega)]
  refine w_if_ne rfl (fun h1 => ?_) (fun h1 => ?_)
  · replace h1 := pI_ne.mp h1
    refine w_blk 4 (pc' := 20) (ls' := [some (.ref 21), some (.ref 5), some (.int (nI e)), none, none]) (sk' := [.int (st.1 21 3), .ref 23]) (st' := st) (fun _ h => h) ?_
    rw [hN.2.2.2.1]
    refine w_callS (As := [.ref 23, .int (nI yd)]) (rest := []) rfl rfl rfl (Nat.le_of_ble_eq_true rfl) (Nat.le_of_ble_eq_true rfl) (c_cellK (d + 0) 23 8 yd st (by omega) (by decide) rfl) ?_
    rw [hN.2.2.2.2.2.2.2.2 yd (by omega)]
    refine w_blk 4 (pc' := 27) (ls' := [some (.ref 21), some (.ref 5), some (.int (nI e)), some (.int (nI (u (12 + yd)))), none]) (sk' := [.int ((nI (u (12 + yd))) + (nI e))]) (st' := st) (fun _ h => h) ?_
    rw [show ((nI (u (12 + yd))) + (nI e)) = nI ((u (12 + yd)) + e) from nI_add (u (12 + yd)) e]
    refine w_blk 4 (pc' := 35) (ls' := [some (.ref 21), some (.ref 5), some (.int (nI e)), some (.int (nI (u (12 + yd)))), none]) (sk' := [.int (st.1 21 3), .ref 11, .int (nI ((u (12 + yd)) + e))]) (st' := st) (fun _ h => h) ?_
    rw [hN.2.2.2.1]
    refine w_callS (As := [.ref 11, .int (nI yd)]) (rest := [.int (nI ((u (12 + yd)) + e))]) rfl rfl rfl (Nat.le_of_ble_eq_true rfl) (Nat.le_of_ble_eq_true rfl) (c_cellK (d + 0) 11 8 yd st (by omega) (by decide) rfl) ?_
    rw [(hX.2.2.2.2.2 yd (by omega)).1]
    have hz := hyb2 h1
    refine w_callS (As := [.int (nI ((u (12 + yd)) + e)), .int (nI (c 5 yd))]) (rest := []) rfl rfl rfl (Nat.le_of_ble_eq_true rfl) (Nat.le_of_ble_eq_true rfl) (c_minK (d + 0) ((u (12 + yd)) + e) (c 5 yd) st (by omega) (by omega)) ?_
    rw [show nI (min (u (12 + yd) + e) (c 5 yd)) = nI (dg_a c u yd e) from rfl]
    refine w_blk 5 (pc' := 51) (ls' := [some (.ref 21), some (.ref 5), some (.int (nI e)), some (.int (nI (u (12 + yd)))), some (.int (nI (dg_a c u yd e)))]) (sk' := [.int (st.1 21 3), .ref 23]) (st' := st) (fun _ h => h) ?_
    rw [hN.2.2.2.1]
    refine w_blk 1 (pc' := 53) (ls' := [some (.ref 21), some (.ref 5), some (.int (nI e)), some (.int (nI (u (12 + yd)))), some (.int (nI (dg_a c u yd e)))]) (sk' := [.int (nI (dg_a c u yd e)), .int (nI yd), .ref 23]) (st' := st) (fun _ h => h) ?_
    refine w_callS (As := [.ref 23, .int (nI yd), .int (nI (dg_a c u yd e))]) (rest := []) rfl rfl rfl (Nat.le_of_ble_eq_true rfl) (Nat.le_of_ble_eq_true rfl) (c_putK (d + 0) 23 8 yd (nI (dg_a c u yd e)) st (by omega) (by decide) rfl) ?_
    have hN_2 : N21 ((mU st.1 23 yd (nI (dg_a c u yd e))), st.2) v (updN u (12 + yd) (dg_a c u yd e)) yd := N21_out hN yd _
    have hX_3 : X5 ((mU st.1 23 yd (nI (dg_a c u yd e))), st.2) n c := hX
    have hf_4 : Fr [21, 22, 23] st ((mU st.1 23 yd (nI (dg_a c u yd e))), st.2) := (Fr.trans (Fr.rf : Fr [21, 22, 23] st st) (Fr.mU (by decide)))
    generalize ((mU st.1 23 yd (nI (dg_a c u yd e))), st.2) = s1 at hN_2 hX_3 hf_4 ⊢
    have hle : u (12 + yd) ≤ dg_a c u yd e := by have := hyb h1; unfold dg_a; omega
    have hle2 : dg_a c u yd e ≤ 99 := by have := hby yd h1; unfold dg_a; omega
    refine w_blk 3 (pc' := 61) (ls' := [some (.ref 21), some (.ref 5), some (.int (nI e)), some (.int (nI (u (12 + yd)))), some (.int (nI (dg_a c u yd e)))]) (sk' := [.int (s1.1 21 2), .ref 21]) (st' := s1) (fun _ h => h) ?_
    rw [hN_2.2.2.1]
    refine w_blk 3 (pc' := 65) (ls' := [some (.ref 21), some (.ref 5), some (.int (nI e)), some (.int (nI (u (12 + yd)))), some (.int (nI (dg_a c u yd e)))]) (sk' := [.int ((nI (dg_a c u yd e)) - (nI (u (12 + yd)))), .int (v 2), .ref 21]) (st' := s1) (fun _ h => h) ?_
    rw [show nI (dg_a c u yd e) - nI (u (12 + yd)) = nI (dg_a c u yd e - u (12 + yd)) from pk_sub hle]
    refine w_blk 2 (pc' := 69) (ls' := [some (.ref 21), some (.ref 5), some (.int (nI e)), some (.int (nI (u (12 + yd)))), some (.int (nI (dg_a c u yd e)))]) (sk' := []) (st' := ((mU s1.1 21 2 ((v 2) + (nI (dg_a c u yd e - u (12 + yd))))), s1.2)) (fun _ h => h) ?_
    have hN_6 : N21 ((mU s1.1 21 2 ((v 2) + (nI (dg_a c u yd e - u (12 + yd))))), s1.2) (dg_v n c v u yd e) (updN u (12 + yd) (dg_a c u yd e)) yd := (by unfold dg_v; rw [if_pos h1]; exact N21_ea hN_2 _)
    have hX_7 : X5 ((mU s1.1 21 2 ((v 2) + (nI (dg_a c u yd e - u (12 + yd))))), s1.2) n c := hX_3
    have hf_8 : Fr [21, 22, 23] st ((mU s1.1 21 2 ((v 2) + (nI (dg_a c u yd e - u (12 + yd))))), s1.2) := (Fr.trans hf_4 (Fr.mU (by decide)))
    generalize ((mU s1.1 21 2 ((v 2) + (nI (dg_a c u yd e - u (12 + yd))))), s1.2) = s5 at hN_6 hX_7 hf_8 ⊢
    refine w_blk 5 (pc' := 79) (ls' := [some (.ref 21), some (.ref 5), some (.int (nI e)), some (.int (nI (u (12 + yd)))), some (.int (nI (dg_a c u yd e)))]) (sk' := [.int (s5.1 21 3), .ref 11, .int (nI (dg_a c u yd e))]) (st' := s5) (fun _ h => h) ?_
    rw [hN_6.2.2.2.1]
    refine w_callS (As := [.ref 11, .int (nI yd)]) (rest := [.int (nI (dg_a c u yd e))]) rfl rfl rfl (Nat.le_of_ble_eq_true rfl) (Nat.le_of_ble_eq_true rfl) (c_cellK (d + 0) 11 8 yd s5 (by omega) (by decide) rfl) ?_
    rw [(hX_7.2.2.2.2.2 yd (by omega)).1]
    refine w_cmp_ne rfl (fun h2 => ?_) (fun h2 => ?_)
    · replace h2 : ¬ (dg_a c u yd e = c 5 yd) := fun hh => h2 ((nI_eq (a := (dg_a c u yd e)) (b := (c 5 yd)) (by omega) (by omega)).mpr hh)
      exact w_vret rfl rfl (hq _ ⟨by unfold dg_u dg_y; rw [if_pos h1, if_pos h1, if_neg h2]; exact hN_6, hf_8⟩)
    · replace h2 : dg_a c u yd e = c 5 yd := (nI_eq (a := (dg_a c u yd e)) (b := (c 5 yd)) (by omega) (by omega)).mp (Decidable.not_not.mp h2)
      refine w_blk 3 (pc' := 90) (ls' := [some (.ref 21), some (.ref 5), some (.int (nI e)), some (.int (nI (u (12 + yd)))), some (.int (nI (dg_a c u yd e)))]) (sk' := [.int (s5.1 21 3), .ref 21]) (st' := s5) (fun _ h => h) ?_
      rw [hN_6.2.2.2.1]
      refine w_blk 2 (pc' := 92) (ls' := [some (.ref 21), some (.ref 5), some (.int (nI e)), some (.int (nI (u (12 + yd)))), some (.int (nI (dg_a c u yd e)))]) (sk' := [.int ((nI yd) + 1), .ref 21]) (st' := s5) (fun _ h => h) ?_
      rw [show ((nI yd) + 1) = nI (yd + 1) from nI_add yd 1]
      refine w_blk 1 (pc' := 95) (ls' := [some (.ref 21), some (.ref 5), some (.int (nI e)), some (.int (nI (u (12 + yd)))), some (.int (nI (dg_a c u yd e)))]) (sk' := []) (st' := ((mU s5.1 21 3 (nI (yd + 1))), s5.2)) (fun _ h => h) ?_
      have hN_10 : N21 ((mU s5.1 21 3 (nI (yd + 1))), s5.2) (dg_v n c v u yd e) (updN u (12 + yd) (dg_a c u yd e)) (yd + 1) := N21_yd hN_6 _
      have hf_11 : Fr [21, 22, 23] st ((mU s5.1 21 3 (nI (yd + 1))), s5.2) := (Fr.trans hf_8 (Fr.mU (by decide)))
      generalize ((mU s5.1 21 3 (nI (yd + 1))), s5.2) = s9 at hN_10 hf_11 ⊢
      exact w_vret rfl rfl (hq _ ⟨by unfold dg_u dg_y; rw [if_pos h1, if_pos h1, if_pos h2]; exact hN_10, hf_11⟩)
  · replace h1 := pI_eq0.mp (Decidable.not_not.mp h1)
    exact w_vret rfl rfl (hq _ ⟨by unfold dg_v dg_u dg_y; rw [if_neg h1, if_neg h1, if_neg h1]; exact hN, Fr.rf⟩)
set_option maxRecDepth 20000 in
/-- dig(crew, e) -/
theorem c_dig_13 (d : Nat) (n : Nat → Nat) (c : Nat → Nat → Nat) (v : Nat → Int32) (u : Nat → Nat) (yd : Nat) (e : Nat) (st : mSt) (hX : X13 st n c) (hB : CB n c) (hN : N21 st v u yd) (hU : ∀ j, 3 ≤ j → j < 12 → u j < 256) (hyd : yd ≤ n 2) (hyb : yd < n 2 → u (12 + yd) < c 5 yd) (he : e ≤ 81) : ∃ (s : mSt), mMC mT (d + 2) 51 [.ref 21, .ref 13, .int (nI e)] st (none) s ∧ N21 s (dg_v n c v u yd e) (dg_u n c u yd e) (dg_y n c u yd e) ∧ Fr [21, 22, 23] st s := by
  suffices H : ∀ Q : Option Value → mSt → Prop, (∀ (s : mSt), (N21 s (dg_v n c v u yd e) (dg_u n c u yd e) (dg_y n c u yd e) ∧ Fr [21, 22, 23] st s) → Q (none) s) → mW (mMC mT (d + 1)) (0, fun _ => 0) (mAtL P_X5_dig) none Q 0 [some (.ref 21), some (.ref 13), some (.int (nI e)), none, none] [] st by
    obtain ⟨_, _, ⟨s, rfl, rfl, hp⟩, hw⟩ := mW_ex (H (fun vv tt => ∃ (s : mSt),  vv = none ∧ s = tt ∧ N21 s (dg_v n c v u yd e) (dg_u n c u yd e) (dg_y n c u yd e) ∧ Fr [21, 22, 23] st s) (fun s hp => ⟨s, rfl, rfl, hp⟩))
    exact ⟨s, mI_X5_dig (d := d + 1) (Nat.le_of_ble_eq_true rfl) hw, hp⟩
  intro Q hq
  obtain ⟨hb0, hb1, hb2, hbd, hbs, hby⟩ := id hB
  have hyb2 : yd < n 2 → u (12 + yd) < c 5 yd ∧ c 5 yd ≤ 99 := fun h => ⟨hyb h, (hby yd h).2.1⟩
  refine w_blk 3 (pc' := 5) (ls' := [some (.ref 21), some (.ref 13), some (.int (nI e)), none, none]) (sk' := [.int (st.1 21 3), .ref 13]) (st' := st) (fun _ h => h) ?_
  rw [hN.2.2.2.1]
  refine w_callV (As := [.ref 13, .int (nI yd)]) (rest := []) rfl rfl rfl (Nat.le_of_ble_eq_true rfl) (Nat.le_of_ble_eq_true rfl) (by first | exact Or.inl ⟨rfl, rfl⟩ | exact Or.inr ⟨rfl, rfl⟩) (c_hasYard_13 (d + 0) (nI yd) st) ?_
  rw [hX.2.2.1]
  rw [pI_in2 (a := yd) (b := n 2) (by omega) (by omega)]
  refine w_if_ne rfl (fun h1 => ?_) (fun h1 => ?_)
  · replace h1 := pI_ne.mp h1
    refine w_blk 4 (pc' := 20) (ls' := [some (.ref 21), some (.ref 13), some (.int (nI e)), none, none]) (sk' := [.int (st.1 21 3), .ref 23]) (st' := st) (fun _ h => h) ?_
    rw [hN.2.2.2.1]
    refine w_callS (As := [.ref 23, .int (nI yd)]) (rest := []) rfl rfl rfl (Nat.le_of_ble_eq_true rfl) (Nat.le_of_ble_eq_true rfl) (c_cellK (d + 0) 23 8 yd st (by omega) (by decide) rfl) ?_
    rw [hN.2.2.2.2.2.2.2.2 yd (by omega)]
    refine w_blk 4 (pc' := 27) (ls' := [some (.ref 21), some (.ref 13), some (.int (nI e)), some (.int (nI (u (12 + yd)))), none]) (sk' := [.int ((nI (u (12 + yd))) + (nI e))]) (st' := st) (fun _ h => h) ?_
    rw [show ((nI (u (12 + yd))) + (nI e)) = nI ((u (12 + yd)) + e) from nI_add (u (12 + yd)) e]
    refine w_blk 4 (pc' := 35) (ls' := [some (.ref 21), some (.ref 13), some (.int (nI e)), some (.int (nI (u (12 + yd)))), none]) (sk' := [.int (st.1 21 3), .ref 19, .int (nI ((u (12 + yd)) + e))]) (st' := st) (fun _ h => h) ?_
    rw [hN.2.2.2.1]
    refine w_callS (As := [.ref 19, .int (nI yd)]) (rest := [.int (nI ((u (12 + yd)) + e))]) rfl rfl rfl (Nat.le_of_ble_eq_true rfl) (Nat.le_of_ble_eq_true rfl) (c_cellK (d + 0) 19 8 yd st (by omega) (by decide) rfl) ?_
    rw [(hX.2.2.2.2.2 yd (by omega)).1]
    have hz := hyb2 h1
    refine w_callS (As := [.int (nI ((u (12 + yd)) + e)), .int (nI (c 5 yd))]) (rest := []) rfl rfl rfl (Nat.le_of_ble_eq_true rfl) (Nat.le_of_ble_eq_true rfl) (c_minK (d + 0) ((u (12 + yd)) + e) (c 5 yd) st (by omega) (by omega)) ?_
    rw [show nI (min (u (12 + yd) + e) (c 5 yd)) = nI (dg_a c u yd e) from rfl]
    refine w_blk 5 (pc' := 51) (ls' := [some (.ref 21), some (.ref 13), some (.int (nI e)), some (.int (nI (u (12 + yd)))), some (.int (nI (dg_a c u yd e)))]) (sk' := [.int (st.1 21 3), .ref 23]) (st' := st) (fun _ h => h) ?_
    rw [hN.2.2.2.1]
    refine w_blk 1 (pc' := 53) (ls' := [some (.ref 21), some (.ref 13), some (.int (nI e)), some (.int (nI (u (12 + yd)))), some (.int (nI (dg_a c u yd e)))]) (sk' := [.int (nI (dg_a c u yd e)), .int (nI yd), .ref 23]) (st' := st) (fun _ h => h) ?_
    refine w_callS (As := [.ref 23, .int (nI yd), .int (nI (dg_a c u yd e))]) (rest := []) rfl rfl rfl (Nat.le_of_ble_eq_true rfl) (Nat.le_of_ble_eq_true rfl) (c_putK (d + 0) 23 8 yd (nI (dg_a c u yd e)) st (by omega) (by decide) rfl) ?_
    have hN_2 : N21 ((mU st.1 23 yd (nI (dg_a c u yd e))), st.2) v (updN u (12 + yd) (dg_a c u yd e)) yd := N21_out hN yd _
    have hX_3 : X13 ((mU st.1 23 yd (nI (dg_a c u yd e))), st.2) n c := hX
    have hf_4 : Fr [21, 22, 23] st ((mU st.1 23 yd (nI (dg_a c u yd e))), st.2) := (Fr.trans (Fr.rf : Fr [21, 22, 23] st st) (Fr.mU (by decide)))
    generalize ((mU st.1 23 yd (nI (dg_a c u yd e))), st.2) = s1 at hN_2 hX_3 hf_4 ⊢
    have hle : u (12 + yd) ≤ dg_a c u yd e := by have := hyb h1; unfold dg_a; omega
    have hle2 : dg_a c u yd e ≤ 99 := by have := hby yd h1; unfold dg_a; omega
    refine w_blk 3 (pc' := 61) (ls' := [some (.ref 21), some (.ref 13), some (.int (nI e)), some (.int (nI (u (12 + yd)))), some (.int (nI (dg_a c u yd e)))]) (sk' := [.int (s1.1 21 2), .ref 21]) (st' := s1) (fun _ h => h) ?_
    rw [hN_2.2.2.1]
    refine w_blk 3 (pc' := 65) (ls' := [some (.ref 21), some (.ref 13), some (.int (nI e)), some (.int (nI (u (12 + yd)))), some (.int (nI (dg_a c u yd e)))]) (sk' := [.int ((nI (dg_a c u yd e)) - (nI (u (12 + yd)))), .int (v 2), .ref 21]) (st' := s1) (fun _ h => h) ?_
    rw [show nI (dg_a c u yd e) - nI (u (12 + yd)) = nI (dg_a c u yd e - u (12 + yd)) from pk_sub hle]
    refine w_blk 2 (pc' := 69) (ls' := [some (.ref 21), some (.ref 13), some (.int (nI e)), some (.int (nI (u (12 + yd)))), some (.int (nI (dg_a c u yd e)))]) (sk' := []) (st' := ((mU s1.1 21 2 ((v 2) + (nI (dg_a c u yd e - u (12 + yd))))), s1.2)) (fun _ h => h) ?_
    have hN_6 : N21 ((mU s1.1 21 2 ((v 2) + (nI (dg_a c u yd e - u (12 + yd))))), s1.2) (dg_v n c v u yd e) (updN u (12 + yd) (dg_a c u yd e)) yd := (by unfold dg_v; rw [if_pos h1]; exact N21_ea hN_2 _)
    have hX_7 : X13 ((mU s1.1 21 2 ((v 2) + (nI (dg_a c u yd e - u (12 + yd))))), s1.2) n c := hX_3
    have hf_8 : Fr [21, 22, 23] st ((mU s1.1 21 2 ((v 2) + (nI (dg_a c u yd e - u (12 + yd))))), s1.2) := (Fr.trans hf_4 (Fr.mU (by decide)))
    generalize ((mU s1.1 21 2 ((v 2) + (nI (dg_a c u yd e - u (12 + yd))))), s1.2) = s5 at hN_6 hX_7 hf_8 ⊢
    refine w_blk 5 (pc' := 79) (ls' := [some (.ref 21), some (.ref 13), some (.int (nI e)), some (.int (nI (u (12 + yd)))), some (.int (nI (dg_a c u yd e)))]) (sk' := [.int (s5.1 21 3), .ref 19, .int (nI (dg_a c u yd e))]) (st' := s5) (fun _ h => h) ?_
    rw [hN_6.2.2.2.1]
    refine w_callS (As := [.ref 19, .int (nI yd)]) (rest := [.int (nI (dg_a c u yd e))]) rfl rfl rfl (Nat.le_of_ble_eq_true rfl) (Nat.le_of_ble_eq_true rfl) (c_cellK (d + 0) 19 8 yd s5 (by omega) (by decide) rfl) ?_
    rw [(hX_7.2.2.2.2.2 yd (by omega)).1]
    refine w_cmp_ne rfl (fun h2 => ?_) (fun h2 => ?_)
    · replace h2 : ¬ (dg_a c u yd e = c 5 yd) := fun hh => h2 ((nI_eq (a := (dg_a c u yd e)) (b := (c 5 yd)) (by omega) (by omega)).mpr hh)
      exact w_vret rfl rfl (hq _ ⟨by unfold dg_u dg_y; rw [if_pos h1, if_pos h1, if_neg h2]; exact hN_6, hf_8⟩)
    · replace h2 : dg_a c u yd e = c 5 yd := (nI_eq (a := (dg_a c u yd e)) (b := (c 5 yd)) (by omega) (by omega)).mp (Decidable.not_not.mp h2)
      refine w_blk 3 (pc' := 90) (ls' := [some (.ref 21), some (.ref 13), some (.int (nI e)), some (.int (nI (u (12 + yd)))), some (.int (nI (dg_a c u yd e)))]) (sk' := [.int (s5.1 21 3), .ref 21]) (st' := s5) (fun _ h => h) ?_
      rw [hN_6.2.2.2.1]
      refine w_blk 2 (pc' := 92) (ls' := [some (.ref 21), some (.ref 13), some (.int (nI e)), some (.int (nI (u (12 + yd)))), some (.int (nI (dg_a c u yd e)))]) (sk' := [.int ((nI yd) + 1), .ref 21]) (st' := s5) (fun _ h => h) ?_
      rw [show ((nI yd) + 1) = nI (yd + 1) from nI_add yd 1]
      refine w_blk 1 (pc' := 95) (ls' := [some (.ref 21), some (.ref 13), some (.int (nI e)), some (.int (nI (u (12 + yd)))), some (.int (nI (dg_a c u yd e)))]) (sk' := []) (st' := ((mU s5.1 21 3 (nI (yd + 1))), s5.2)) (fun _ h => h) ?_
      have hN_10 : N21 ((mU s5.1 21 3 (nI (yd + 1))), s5.2) (dg_v n c v u yd e) (updN u (12 + yd) (dg_a c u yd e)) (yd + 1) := N21_yd hN_6 _
      have hf_11 : Fr [21, 22, 23] st ((mU s5.1 21 3 (nI (yd + 1))), s5.2) := (Fr.trans hf_8 (Fr.mU (by decide)))
      generalize ((mU s5.1 21 3 (nI (yd + 1))), s5.2) = s9 at hN_10 hf_11 ⊢
      exact w_vret rfl rfl (hq _ ⟨by unfold dg_u dg_y; rw [if_pos h1, if_pos h1, if_pos h2]; exact hN_10, hf_11⟩)
  · replace h1 := pI_eq0.mp (Decidable.not_not.mp h1)
    exact w_vret rfl rfl (hq _ ⟨by unfold dg_v dg_u dg_y; rw [if_neg h1, if_neg h1, if_neg h1]; exact hN, Fr.rf⟩)
theorem th_u_bd {n : Nat → Nat} {u : Nat → Nat} {k j : Nat} (h0 : n 0 ≤ 6) (h1 : n 1 ≤ 8) (hk : k < n 0) (hj : j < n 1) (hU : ∀ i, 3 ≤ i → i < 12 → u i < 256) : ∀ i, 3 ≤ i → i < 12 → th_u u k j i < 256 := by
  intro i h3 h12
  unfold th_u updN
  have a3 := hU 3 (by omega) (by omega)
  have a4 := hU 4 (by omega) (by omega)
  have ak := hU (6 + k) (by omega) (by omega)
  have ai := hU i h3 h12
  repeat' split
  · exact or_lt (m := 8) ak (by omega)
  · exact or_lt (m := 8) a4 (by omega)
  · exact or_lt (m := 8) a3 (by omega)
  · exact ai
theorem th_u_out {u : Nat → Nat} {k j y : Nat} (hk : k < 6) : th_u u k j (12 + y) = u (12 + y) := by
  unfold th_u
  rw [updN_n (by omega), updN_n (by omega), updN_n (by omega)]
def tw_v (n : Nat → Nat) (c : Nat → Nat → Nat) (v : Nat → Int32) (u : Nat → Nat) (yd : Nat) (x y : Int32) : Nat → Int32 := if thC n c u x y then dg_v n c v (th_u u x.toNatClampNeg y.toNatClampNeg) yd (th_e n c yd x.toNatClampNeg y.toNatClampNeg) else v
def tw_u (n : Nat → Nat) (c : Nat → Nat → Nat) (u : Nat → Nat) (yd : Nat) (x y : Int32) : Nat → Nat := if thC n c u x y then dg_u n c (th_u u x.toNatClampNeg y.toNatClampNeg) yd (th_e n c yd x.toNatClampNeg y.toNatClampNeg) else u
def tw_y (n : Nat → Nat) (c : Nat → Nat → Nat) (u : Nat → Nat) (yd : Nat) (x y : Int32) : Nat := if thC n c u x y then dg_y n c (th_u u x.toNatClampNeg y.toNatClampNeg) yd (th_e n c yd x.toNatClampNeg y.toNatClampNeg) else yd
theorem thC_iff {n : Nat → Nat} {c : Nat → Nat → Nat} {u : Nat → Nat} {k j : Nat} (h0 : n 0 < 2 ^ 31) (h1 : n 1 < 2 ^ 31) (hk : k < n 0) (hj : j < n 1) : thC n c u (nI k) (nI j) ↔ canP c u k j := by
  unfold thC
  rw [nI_clamp (show k < 2 ^ 31 by omega), nI_clamp (show j < 2 ^ 31 by omega)]
  exact ⟨fun h => h.2.2, fun h => ⟨nI_in3 h0 hk, nI_in3 h1 hj, h⟩⟩
set_option maxRecDepth 20000 in
/-- throwWith -/
theorem x_throwWith_5 (d : Nat) (n : Nat → Nat) (c : Nat → Nat → Nat) (v : Nat → Int32) (u : Nat → Nat) (yd : Nat) (x y : Int32) (st : mSt) (hcw : st.1 0 1 = nI 5) (hX : X5 st n c) (hB : CB n c) (hN : N21 st v u yd) (hU : ∀ j, 3 ≤ j → j < 12 → u j < 256) (hyd : yd ≤ n 2) (hyb : yd < n 2 → u (12 + yd) < c 5 yd) : ∃ (s : mSt), mMC mT (d + 5) 92 [.ref 0, .int x, .int y] st (some (.int (sp_throw n c u yd x y))) s ∧ N21 s (tw_v n c v u yd x y) (tw_u n c u yd x y) (tw_y n c u yd x y) ∧ Fr [21, 22, 23] st s := by
  suffices H : ∀ Q : Option Value → mSt → Prop, (∀ (s : mSt), (N21 s (tw_v n c v u yd x y) (tw_u n c u yd x y) (tw_y n c u yd x y) ∧ Fr [21, 22, 23] st s) → Q (some (.int (sp_throw n c u yd x y))) s) → mW (mMC mT (d + 4)) (0, fun _ => 0) (mAtL P_X9_throwWith) (some .int) Q 0 [some (.ref 0), some (.int x), some (.int y), none] [] st by
    obtain ⟨_, _, ⟨s, rfl, rfl, hp⟩, hw⟩ := mW_ex (H (fun vv tt => ∃ (s : mSt),  vv = some (.int (sp_throw n c u yd x y)) ∧ s = tt ∧ N21 s (tw_v n c v u yd x y) (tw_u n c u yd x y) (tw_y n c u yd x y) ∧ Fr [21, 22, 23] st s) (fun s hp => ⟨s, rfl, rfl, hp⟩))
    exact ⟨s, mI_X9_throwWith (d := d + 4) (Nat.le_of_ble_eq_true rfl) hw, hp⟩
  intro Q hq
  have hcr : (st.1 0 1).toNatClampNeg = 5 := by rw [hcw]; rfl
  obtain ⟨hb0, hb1, hb2, hbd, hbs, hby⟩ := id hB
  refine w_blk 1 (pc' := 1) (ls' := [some (.ref 0), some (.int x), some (.int y), none]) (sk' := [.ref 0]) (st' := st) (fun _ h => h) ?_
  refine w_blk 1 (pc' := 4) (ls' := [some (.ref 0), some (.int x), some (.int y), none]) (sk' := [.ref (Int32.toNatClampNeg (st.1 0 1))]) (st' := st) (fun _ h => h) ?_
  rw [hcr]
  refine w_blk 1 (pc' := 5) (ls' := [some (.ref 0), some (.int x), some (.int y), none]) (sk' := [.int x, .ref 5]) (st' := st) (fun _ h => h) ?_
  refine w_callV (As := [.ref 5, .int x]) (rest := []) rfl rfl rfl (Nat.le_of_ble_eq_true rfl) (Nat.le_of_ble_eq_true rfl) (by first | exact Or.inl ⟨rfl, rfl⟩ | exact Or.inr ⟨rfl, rfl⟩) (c_hasDigger_5 (d + 3) x st) ?_
  rw [hX.1]
  refine w_if_eq rfl (fun h1 => ?_) (fun h1 => ?_)
  · replace h1 := pI_eq0.mp h1
    refine w_blk 1 (pc' := 23) (ls' := [some (.ref 0), some (.int x), some (.int y), none]) (sk' := [.int (-1)]) (st' := st) (fun _ h => h) ?_
    have hno : ¬ thC n c u x y := fun h => h1 h.1
    rw [show tw_v n c v u yd x y = v from if_neg hno, show tw_u n c u yd x y = u from if_neg hno, show tw_y n c u yd x y = yd from if_neg hno, show sp_throw n c u yd x y = (-1) from if_neg h1] at hq
    exact w_iret rfl rfl rfl (hq _ ⟨hN, Fr.rf⟩)
  · replace h1 := pI_ne.mp h1
    refine w_blk 1 (pc' := 12) (ls' := [some (.ref 0), some (.int x), some (.int y), none]) (sk' := [.ref 0]) (st' := st) (fun _ h => h) ?_
    refine w_blk 1 (pc' := 15) (ls' := [some (.ref 0), some (.int x), some (.int y), none]) (sk' := [.ref (Int32.toNatClampNeg (st.1 0 1))]) (st' := st) (fun _ h => h) ?_
    rw [hcr]
    refine w_blk 1 (pc' := 16) (ls' := [some (.ref 0), some (.int x), some (.int y), none]) (sk' := [.int y, .ref 5]) (st' := st) (fun _ h => h) ?_
    obtain ⟨k, hk, rfl⟩ := nI_in2 (by omega) h1
    refine w_callV (As := [.ref 5, .int y]) (rest := []) rfl rfl rfl (Nat.le_of_ble_eq_true rfl) (Nat.le_of_ble_eq_true rfl) (by first | exact Or.inl ⟨rfl, rfl⟩ | exact Or.inr ⟨rfl, rfl⟩) (c_hasSpade_5 (d + 3) y st) ?_
    rw [hX.2.1]
    refine w_if_ne rfl (fun h2 => ?_) (fun h2 => ?_)
    · replace h2 := pI_ne.mp h2
      refine w_blk 3 (pc' := 29) (ls' := [some (.ref 0), some (.int (nI k)), some (.int y), none]) (sk' := [.ref 0, .ref 21]) (st' := st) (fun _ h => h) ?_
      refine w_blk 1 (pc' := 32) (ls' := [some (.ref 0), some (.int (nI k)), some (.int y), none]) (sk' := [.ref (Int32.toNatClampNeg (st.1 0 1)), .ref 21]) (st' := st) (fun _ h => h) ?_
      rw [hcr]
      refine w_blk 2 (pc' := 34) (ls' := [some (.ref 0), some (.int (nI k)), some (.int y), none]) (sk' := [.int y, .int (nI k), .ref 5, .ref 21]) (st' := st) (fun _ h => h) ?_
      obtain ⟨j, hj, rfl⟩ := nI_in2 (by omega) h2
      refine w_callV (As := [.ref 21, .ref 5, .int (nI k), .int (nI j)]) (rest := []) rfl rfl rfl (Nat.le_of_ble_eq_true rfl) (Nat.le_of_ble_eq_true rfl) (by first | exact Or.inl ⟨rfl, rfl⟩ | exact Or.inr ⟨rfl, rfl⟩) (c_canThrow_5 (d + 0) n c v u yd k j st hX hB hN hU (by omega) (by omega)) ?_
      refine w_if_ne rfl (fun h3 => ?_) (fun h3 => ?_)
      · replace h3 := pI_ne.mp h3
        refine w_blk 3 (pc' := 48) (ls' := [some (.ref 0), some (.int (nI k)), some (.int (nI j)), none]) (sk' := [.ref 0, .ref 21]) (st' := st) (fun _ h => h) ?_
        refine w_blk 1 (pc' := 51) (ls' := [some (.ref 0), some (.int (nI k)), some (.int (nI j)), none]) (sk' := [.ref (Int32.toNatClampNeg (st.1 0 1)), .ref 21]) (st' := st) (fun _ h => h) ?_
        rw [hcr]
        refine w_blk 2 (pc' := 53) (ls' := [some (.ref 0), some (.int (nI k)), some (.int (nI j)), none]) (sk' := [.int (nI j), .int (nI k), .ref 5, .ref 21]) (st' := st) (fun _ h => h) ?_
        refine w_callV (As := [.ref 21, .ref 5, .int (nI k), .int (nI j)]) (rest := []) rfl rfl rfl (Nat.le_of_ble_eq_true rfl) (Nat.le_of_ble_eq_true rfl) (by first | exact Or.inl ⟨rfl, rfl⟩ | exact Or.inr ⟨rfl, rfl⟩) (c_earthOf_5 (d + 1) n c v u yd k j st hX hB hN hU hyd (by omega) (by omega)) ?_
        refine w_blk 5 (pc' := 63) (ls' := [some (.ref 0), some (.int (nI k)), some (.int (nI j)), some (.int (nI (th_e n c yd k j)))]) (sk' := [.int (nI j), .int (nI k), .ref 21]) (st' := st) (fun _ h => h) ?_
        obtain ⟨s1, hc_2, hN_3, hf_4⟩ := c_noteThrow (d + 2) n c v u yd k j st hB hN hU hyd (by omega) (by omega)
        refine w_callV (As := [.ref 21, .int (nI k), .int (nI j)]) (rest := []) rfl rfl rfl (Nat.le_of_ble_eq_true rfl) (Nat.le_of_ble_eq_true rfl) (by first | exact Or.inl ⟨rfl, rfl⟩ | exact Or.inr ⟨rfl, rfl⟩) hc_2 ?_
        have hf_5 := Fr.trans (Fr.rf : Fr [21, 22, 23] st st) hf_4
        have hUt := th_u_bd hb0 hb1 hk hj hU
        have hybt : yd < n 2 → th_u u k j (12 + yd) < c 5 yd := fun h => by rw [th_u_out (by omega)]; exact hyb h
        have hee := th_e_le (yd := yd) hB hk hj
        have hXn := X5_fr hf_5 (by decide) hX
        have hcrn : (s1.1 0 1).toNatClampNeg = 5 := by rw [hf_5.1 0 (by decide)]; exact hcr
        refine w_blk 3 (pc' := 71) (ls' := [some (.ref 0), some (.int (nI k)), some (.int (nI j)), some (.int (nI (th_e n c yd k j)))]) (sk' := [.ref 0, .ref 21]) (st' := s1) (fun _ h => h) ?_
        refine w_blk 1 (pc' := 74) (ls' := [some (.ref 0), some (.int (nI k)), some (.int (nI j)), some (.int (nI (th_e n c yd k j)))]) (sk' := [.ref (Int32.toNatClampNeg (s1.1 0 1)), .ref 21]) (st' := s1) (fun _ h => h) ?_
        rw [hcrn]
        refine w_blk 1 (pc' := 75) (ls' := [some (.ref 0), some (.int (nI k)), some (.int (nI j)), some (.int (nI (th_e n c yd k j)))]) (sk' := [.int (nI (th_e n c yd k j)), .ref 5, .ref 21]) (st' := s1) (fun _ h => h) ?_
        obtain ⟨s6, hc_7, hN_8, hf_9⟩ := c_dig_5 (d + 2) n c v (th_u u k j) yd (th_e n c yd k j) s1 hXn hB hN_3 hUt hyd hybt (by omega)
        refine w_callV (As := [.ref 21, .ref 5, .int (nI (th_e n c yd k j))]) (rest := []) rfl rfl rfl (Nat.le_of_ble_eq_true rfl) (Nat.le_of_ble_eq_true rfl) (by first | exact Or.inl ⟨rfl, rfl⟩ | exact Or.inr ⟨rfl, rfl⟩) hc_7 ?_
        have hf_10 := Fr.trans hf_5 hf_9
        refine w_blk 1 (pc' := 79) (ls' := [some (.ref 0), some (.int (nI k)), some (.int (nI j)), some (.int (nI (th_e n c yd k j)))]) (sk' := [.int (nI (th_e n c yd k j))]) (st' := s6) (fun _ h => h) ?_
        have hyes : thC n c u (nI k) (nI j) := (thC_iff (by omega) (by omega) hk hj).mpr h3
        rw [show tw_v n c v u yd (nI k) (nI j) = dg_v n c v (th_u u k j) yd (th_e n c yd k j) by unfold tw_v; rw [if_pos hyes, nI_clamp (show k < 2 ^ 31 by omega), nI_clamp (show j < 2 ^ 31 by omega)], show tw_u n c u yd (nI k) (nI j) = dg_u n c (th_u u k j) yd (th_e n c yd k j) by unfold tw_u; rw [if_pos hyes, nI_clamp (show k < 2 ^ 31 by omega), nI_clamp (show j < 2 ^ 31 by omega)], show tw_y n c u yd (nI k) (nI j) = dg_y n c (th_u u k j) yd (th_e n c yd k j) by unfold tw_y; rw [if_pos hyes, nI_clamp (show k < 2 ^ 31 by omega), nI_clamp (show j < 2 ^ 31 by omega)], show sp_throw n c u yd (nI k) (nI j) = (nI (th_e n c yd k j)) by unfold sp_throw; rw [if_pos (nI_in3 (by omega) hk), if_pos (nI_in3 (by omega) hj), nI_clamp (show k < 2 ^ 31 by omega), nI_clamp (show j < 2 ^ 31 by omega), if_pos h3]] at hq
        exact w_iret rfl rfl rfl (hq _ ⟨hN_8, hf_10⟩)
      · replace h3 := pI_eq0.mp (Decidable.not_not.mp h3)
        refine w_blk 1 (pc' := 42) (ls' := [some (.ref 0), some (.int (nI k)), some (.int (nI j)), none]) (sk' := [.int (-2)]) (st' := st) (fun _ h => h) ?_
        have hno : ¬ thC n c u (nI k) (nI j) := fun h => h3 ((thC_iff (by omega) (by omega) hk hj).mp h)
        rw [show tw_v n c v u yd (nI k) (nI j) = v from if_neg hno, show tw_u n c u yd (nI k) (nI j) = u from if_neg hno, show tw_y n c u yd (nI k) (nI j) = yd from if_neg hno, show sp_throw n c u yd (nI k) (nI j) = (-2) from by unfold sp_throw; rw [if_pos (nI_in3 (by omega) hk), if_pos (nI_in3 (by omega) hj), nI_clamp (show k < 2 ^ 31 by omega), nI_clamp (show j < 2 ^ 31 by omega), if_neg h3]] at hq
        exact w_iret rfl rfl rfl (hq _ ⟨hN, Fr.rf⟩)
    · replace h2 := pI_eq0.mp (Decidable.not_not.mp h2)
      refine w_blk 1 (pc' := 23) (ls' := [some (.ref 0), some (.int (nI k)), some (.int y), none]) (sk' := [.int (-1)]) (st' := st) (fun _ h => h) ?_
      have hno : ¬ thC n c u (nI k) y := fun h => h2 h.2.1
      rw [show tw_v n c v u yd (nI k) y = v from if_neg hno, show tw_u n c u yd (nI k) y = u from if_neg hno, show tw_y n c u yd (nI k) y = yd from if_neg hno, show sp_throw n c u yd (nI k) y = (-1) from (if_pos (nI_in3 (by omega) hk)).trans (if_neg h2)] at hq
      exact w_iret rfl rfl rfl (hq _ ⟨hN, Fr.rf⟩)
set_option maxRecDepth 20000 in
/-- throwWith -/
theorem x_throwWith_13 (d : Nat) (n : Nat → Nat) (c : Nat → Nat → Nat) (v : Nat → Int32) (u : Nat → Nat) (yd : Nat) (x y : Int32) (st : mSt) (hcw : st.1 0 1 = nI 13) (hX : X13 st n c) (hB : CB n c) (hN : N21 st v u yd) (hU : ∀ j, 3 ≤ j → j < 12 → u j < 256) (hyd : yd ≤ n 2) (hyb : yd < n 2 → u (12 + yd) < c 5 yd) : ∃ (s : mSt), mMC mT (d + 5) 92 [.ref 0, .int x, .int y] st (some (.int (sp_throw n c u yd x y))) s ∧ N21 s (tw_v n c v u yd x y) (tw_u n c u yd x y) (tw_y n c u yd x y) ∧ Fr [21, 22, 23] st s := by
  suffices H : ∀ Q : Option Value → mSt → Prop, (∀ (s : mSt), (N21 s (tw_v n c v u yd x y) (tw_u n c u yd x y) (tw_y n c u yd x y) ∧ Fr [21, 22, 23] st s) → Q (some (.int (sp_throw n c u yd x y))) s) → mW (mMC mT (d + 4)) (0, fun _ => 0) (mAtL P_X9_throwWith) (some .int) Q 0 [some (.ref 0), some (.int x), some (.int y), none] [] st by
    obtain ⟨_, _, ⟨s, rfl, rfl, hp⟩, hw⟩ := mW_ex (H (fun vv tt => ∃ (s : mSt),  vv = some (.int (sp_throw n c u yd x y)) ∧ s = tt ∧ N21 s (tw_v n c v u yd x y) (tw_u n c u yd x y) (tw_y n c u yd x y) ∧ Fr [21, 22, 23] st s) (fun s hp => ⟨s, rfl, rfl, hp⟩))
    exact ⟨s, mI_X9_throwWith (d := d + 4) (Nat.le_of_ble_eq_true rfl) hw, hp⟩
  intro Q hq
  have hcr : (st.1 0 1).toNatClampNeg = 13 := by rw [hcw]; rfl
  obtain ⟨hb0, hb1, hb2, hbd, hbs, hby⟩ := id hB
  refine w_blk 1 (pc' := 1) (ls' := [some (.ref 0), some (.int x), some (.int y), none]) (sk' := [.ref 0]) (st' := st) (fun _ h => h) ?_
  refine w_blk 1 (pc' := 4) (ls' := [some (.ref 0), some (.int x), some (.int y), none]) (sk' := [.ref (Int32.toNatClampNeg (st.1 0 1))]) (st' := st) (fun _ h => h) ?_
  rw [hcr]
  refine w_blk 1 (pc' := 5) (ls' := [some (.ref 0), some (.int x), some (.int y), none]) (sk' := [.int x, .ref 13]) (st' := st) (fun _ h => h) ?_
  refine w_callV (As := [.ref 13, .int x]) (rest := []) rfl rfl rfl (Nat.le_of_ble_eq_true rfl) (Nat.le_of_ble_eq_true rfl) (by first | exact Or.inl ⟨rfl, rfl⟩ | exact Or.inr ⟨rfl, rfl⟩) (c_hasDigger_13 (d + 3) x st) ?_
  rw [hX.1]
  refine w_if_eq rfl (fun h1 => ?_) (fun h1 => ?_)
  · replace h1 := pI_eq0.mp h1
    refine w_blk 1 (pc' := 23) (ls' := [some (.ref 0), some (.int x), some (.int y), none]) (sk' := [.int (-1)]) (st' := st) (fun _ h => h) ?_
    have hno : ¬ thC n c u x y := fun h => h1 h.1
    rw [show tw_v n c v u yd x y = v from if_neg hno, show tw_u n c u yd x y = u from if_neg hno, show tw_y n c u yd x y = yd from if_neg hno, show sp_throw n c u yd x y = (-1) from if_neg h1] at hq
    exact w_iret rfl rfl rfl (hq _ ⟨hN, Fr.rf⟩)
  · replace h1 := pI_ne.mp h1
    refine w_blk 1 (pc' := 12) (ls' := [some (.ref 0), some (.int x), some (.int y), none]) (sk' := [.ref 0]) (st' := st) (fun _ h => h) ?_
    refine w_blk 1 (pc' := 15) (ls' := [some (.ref 0), some (.int x), some (.int y), none]) (sk' := [.ref (Int32.toNatClampNeg (st.1 0 1))]) (st' := st) (fun _ h => h) ?_
    rw [hcr]
    refine w_blk 1 (pc' := 16) (ls' := [some (.ref 0), some (.int x), some (.int y), none]) (sk' := [.int y, .ref 13]) (st' := st) (fun _ h => h) ?_
    obtain ⟨k, hk, rfl⟩ := nI_in2 (by omega) h1
    refine w_callV (As := [.ref 13, .int y]) (rest := []) rfl rfl rfl (Nat.le_of_ble_eq_true rfl) (Nat.le_of_ble_eq_true rfl) (by first | exact Or.inl ⟨rfl, rfl⟩ | exact Or.inr ⟨rfl, rfl⟩) (c_hasSpade_13 (d + 3) y st) ?_
    rw [hX.2.1]
    refine w_if_ne rfl (fun h2 => ?_) (fun h2 => ?_)
    · replace h2 := pI_ne.mp h2
      refine w_blk 3 (pc' := 29) (ls' := [some (.ref 0), some (.int (nI k)), some (.int y), none]) (sk' := [.ref 0, .ref 21]) (st' := st) (fun _ h => h) ?_
      refine w_blk 1 (pc' := 32) (ls' := [some (.ref 0), some (.int (nI k)), some (.int y), none]) (sk' := [.ref (Int32.toNatClampNeg (st.1 0 1)), .ref 21]) (st' := st) (fun _ h => h) ?_
      rw [hcr]
      refine w_blk 2 (pc' := 34) (ls' := [some (.ref 0), some (.int (nI k)), some (.int y), none]) (sk' := [.int y, .int (nI k), .ref 13, .ref 21]) (st' := st) (fun _ h => h) ?_
      obtain ⟨j, hj, rfl⟩ := nI_in2 (by omega) h2
      refine w_callV (As := [.ref 21, .ref 13, .int (nI k), .int (nI j)]) (rest := []) rfl rfl rfl (Nat.le_of_ble_eq_true rfl) (Nat.le_of_ble_eq_true rfl) (by first | exact Or.inl ⟨rfl, rfl⟩ | exact Or.inr ⟨rfl, rfl⟩) (c_canThrow_13 (d + 0) n c v u yd k j st hX hB hN hU (by omega) (by omega)) ?_
      refine w_if_ne rfl (fun h3 => ?_) (fun h3 => ?_)
      · replace h3 := pI_ne.mp h3
        refine w_blk 3 (pc' := 48) (ls' := [some (.ref 0), some (.int (nI k)), some (.int (nI j)), none]) (sk' := [.ref 0, .ref 21]) (st' := st) (fun _ h => h) ?_
        refine w_blk 1 (pc' := 51) (ls' := [some (.ref 0), some (.int (nI k)), some (.int (nI j)), none]) (sk' := [.ref (Int32.toNatClampNeg (st.1 0 1)), .ref 21]) (st' := st) (fun _ h => h) ?_
        rw [hcr]
        refine w_blk 2 (pc' := 53) (ls' := [some (.ref 0), some (.int (nI k)), some (.int (nI j)), none]) (sk' := [.int (nI j), .int (nI k), .ref 13, .ref 21]) (st' := st) (fun _ h => h) ?_
        refine w_callV (As := [.ref 21, .ref 13, .int (nI k), .int (nI j)]) (rest := []) rfl rfl rfl (Nat.le_of_ble_eq_true rfl) (Nat.le_of_ble_eq_true rfl) (by first | exact Or.inl ⟨rfl, rfl⟩ | exact Or.inr ⟨rfl, rfl⟩) (c_earthOf_13 (d + 1) n c v u yd k j st hX hB hN hU hyd (by omega) (by omega)) ?_
        refine w_blk 5 (pc' := 63) (ls' := [some (.ref 0), some (.int (nI k)), some (.int (nI j)), some (.int (nI (th_e n c yd k j)))]) (sk' := [.int (nI j), .int (nI k), .ref 21]) (st' := st) (fun _ h => h) ?_
        obtain ⟨s1, hc_2, hN_3, hf_4⟩ := c_noteThrow (d + 2) n c v u yd k j st hB hN hU hyd (by omega) (by omega)
        refine w_callV (As := [.ref 21, .int (nI k), .int (nI j)]) (rest := []) rfl rfl rfl (Nat.le_of_ble_eq_true rfl) (Nat.le_of_ble_eq_true rfl) (by first | exact Or.inl ⟨rfl, rfl⟩ | exact Or.inr ⟨rfl, rfl⟩) hc_2 ?_
        have hf_5 := Fr.trans (Fr.rf : Fr [21, 22, 23] st st) hf_4
        have hUt := th_u_bd hb0 hb1 hk hj hU
        have hybt : yd < n 2 → th_u u k j (12 + yd) < c 5 yd := fun h => by rw [th_u_out (by omega)]; exact hyb h
        have hee := th_e_le (yd := yd) hB hk hj
        have hXn := X13_fr hf_5 (by decide) hX
        have hcrn : (s1.1 0 1).toNatClampNeg = 13 := by rw [hf_5.1 0 (by decide)]; exact hcr
        refine w_blk 3 (pc' := 71) (ls' := [some (.ref 0), some (.int (nI k)), some (.int (nI j)), some (.int (nI (th_e n c yd k j)))]) (sk' := [.ref 0, .ref 21]) (st' := s1) (fun _ h => h) ?_
        refine w_blk 1 (pc' := 74) (ls' := [some (.ref 0), some (.int (nI k)), some (.int (nI j)), some (.int (nI (th_e n c yd k j)))]) (sk' := [.ref (Int32.toNatClampNeg (s1.1 0 1)), .ref 21]) (st' := s1) (fun _ h => h) ?_
        rw [hcrn]
        refine w_blk 1 (pc' := 75) (ls' := [some (.ref 0), some (.int (nI k)), some (.int (nI j)), some (.int (nI (th_e n c yd k j)))]) (sk' := [.int (nI (th_e n c yd k j)), .ref 13, .ref 21]) (st' := s1) (fun _ h => h) ?_
        obtain ⟨s6, hc_7, hN_8, hf_9⟩ := c_dig_13 (d + 2) n c v (th_u u k j) yd (th_e n c yd k j) s1 hXn hB hN_3 hUt hyd hybt (by omega)
        refine w_callV (As := [.ref 21, .ref 13, .int (nI (th_e n c yd k j))]) (rest := []) rfl rfl rfl (Nat.le_of_ble_eq_true rfl) (Nat.le_of_ble_eq_true rfl) (by first | exact Or.inl ⟨rfl, rfl⟩ | exact Or.inr ⟨rfl, rfl⟩) hc_7 ?_
        have hf_10 := Fr.trans hf_5 hf_9
        refine w_blk 1 (pc' := 79) (ls' := [some (.ref 0), some (.int (nI k)), some (.int (nI j)), some (.int (nI (th_e n c yd k j)))]) (sk' := [.int (nI (th_e n c yd k j))]) (st' := s6) (fun _ h => h) ?_
        have hyes : thC n c u (nI k) (nI j) := (thC_iff (by omega) (by omega) hk hj).mpr h3
        rw [show tw_v n c v u yd (nI k) (nI j) = dg_v n c v (th_u u k j) yd (th_e n c yd k j) by unfold tw_v; rw [if_pos hyes, nI_clamp (show k < 2 ^ 31 by omega), nI_clamp (show j < 2 ^ 31 by omega)], show tw_u n c u yd (nI k) (nI j) = dg_u n c (th_u u k j) yd (th_e n c yd k j) by unfold tw_u; rw [if_pos hyes, nI_clamp (show k < 2 ^ 31 by omega), nI_clamp (show j < 2 ^ 31 by omega)], show tw_y n c u yd (nI k) (nI j) = dg_y n c (th_u u k j) yd (th_e n c yd k j) by unfold tw_y; rw [if_pos hyes, nI_clamp (show k < 2 ^ 31 by omega), nI_clamp (show j < 2 ^ 31 by omega)], show sp_throw n c u yd (nI k) (nI j) = (nI (th_e n c yd k j)) by unfold sp_throw; rw [if_pos (nI_in3 (by omega) hk), if_pos (nI_in3 (by omega) hj), nI_clamp (show k < 2 ^ 31 by omega), nI_clamp (show j < 2 ^ 31 by omega), if_pos h3]] at hq
        exact w_iret rfl rfl rfl (hq _ ⟨hN_8, hf_10⟩)
      · replace h3 := pI_eq0.mp (Decidable.not_not.mp h3)
        refine w_blk 1 (pc' := 42) (ls' := [some (.ref 0), some (.int (nI k)), some (.int (nI j)), none]) (sk' := [.int (-2)]) (st' := st) (fun _ h => h) ?_
        have hno : ¬ thC n c u (nI k) (nI j) := fun h => h3 ((thC_iff (by omega) (by omega) hk hj).mp h)
        rw [show tw_v n c v u yd (nI k) (nI j) = v from if_neg hno, show tw_u n c u yd (nI k) (nI j) = u from if_neg hno, show tw_y n c u yd (nI k) (nI j) = yd from if_neg hno, show sp_throw n c u yd (nI k) (nI j) = (-2) from by unfold sp_throw; rw [if_pos (nI_in3 (by omega) hk), if_pos (nI_in3 (by omega) hj), nI_clamp (show k < 2 ^ 31 by omega), nI_clamp (show j < 2 ^ 31 by omega), if_neg h3]] at hq
        exact w_iret rfl rfl rfl (hq _ ⟨hN, Fr.rf⟩)
    · replace h2 := pI_eq0.mp (Decidable.not_not.mp h2)
      refine w_blk 1 (pc' := 23) (ls' := [some (.ref 0), some (.int (nI k)), some (.int y), none]) (sk' := [.int (-1)]) (st' := st) (fun _ h => h) ?_
      have hno : ¬ thC n c u (nI k) y := fun h => h2 h.2.1
      rw [show tw_v n c v u yd (nI k) y = v from if_neg hno, show tw_u n c u yd (nI k) y = u from if_neg hno, show tw_y n c u yd (nI k) y = yd from if_neg hno, show sp_throw n c u yd (nI k) y = (-1) from (if_pos (nI_in3 (by omega) hk)).trans (if_neg h2)] at hq
      exact w_iret rfl rfl rfl (hq _ ⟨hN, Fr.rf⟩)
end
section
/-! PLAIN CALLS of the class SpadeRings, 3: rounds, breaks, now, images, counts -/
def slow (f : Nat → Nat) (b : Nat) : Nat → Nat
  | 0 => 0
  | k + 1 => if b.testBit k = true then max (slow f b k) (f k) else slow f b k
theorem slow_le {f : Nat → Nat} {b m : Nat} : ∀ k, (∀ i, i < k → f i ≤ m) → slow f b k ≤ m := by
  intro k
  induction k with
  | zero => exact fun _ => Nat.zero_le _
  | succ k ih =>
    intro h
    have h1 := ih (fun i hi => h i (by omega))
    have h2 := h k (by omega)
    unfold slow
    split <;> omega
def en_v (n : Nat → Nat) (c : Nat → Nat → Nat) (v : Nat → Int32) (u : Nat → Nat) : Nat → Int32 := updI (updI v 0 (v 0 + 1)) 1 (v 1 + nI (slow (c 1) (u 3) (n 0)))
def en_u (u : Nat → Nat) : Nat → Nat := updN (updN u 3 0) 4 0
def sp_breaks (n : Nat → Nat) (u : Nat → Nat) (x : Int32) : Int32 := if ok1 n x then (if (u 5).testBit x.toNatClampNeg = true then 0 else 1) else -1
def br_u (n : Nat → Nat) (u : Nat → Nat) (x : Int32) : Nat → Nat := if ok1 n x then updN u 5 (u 5 ||| 2 ^ x.toNatClampNeg) else u
theorem or_same {a k : Nat} (h : a.testBit k = true) : a ||| 2 ^ k = a := by
  apply Nat.eq_of_testBit_eq
  intro i
  rw [Nat.testBit_or, Nat.testBit_two_pow]
  by_cases e : k = i
  · subst e
    simp [h]
  · simp [e]
theorem updN_id {u : Nat → Nat} {k : Nat} : updN u k (u k) = u := by
  funext j
  unfold updN
  split
  · rename_i h
    rw [h]
  · rfl
def sp_now (v : Nat → Int32) (u : Nat → Nat) (yd : Nat) (w : Int32) : Int32 := if w = 0 then v 0 else if w = 1 then v 1 else if w = 2 then v 2 else if w = 3 then nI yd else if w = 4 then nI (u 3) else if w = 5 then nI (u 4) else -1
def sp_count (n : Nat → Nat) (a b l : Nat) (w : Int32) : Int32 := if w = 0 then nI (n 0) else if w = 1 then nI (n 1) else if w = 2 then nI (n 2) else if w = 3 then nI a else if w = 4 then nI b else if w = 5 then nI l else -1
set_option maxRecDepth 20000 in
/-- endRound(crew) -/
theorem c_endRound_5 (d : Nat) (n : Nat → Nat) (c : Nat → Nat → Nat) (v : Nat → Int32) (u : Nat → Nat) (yd : Nat) (st : mSt) (hX : X5 st n c) (hB : CB n c) (hN : N21 st v u yd) (hU : ∀ j, 3 ≤ j → j < 12 → u j < 256) (hyd : yd ≤ n 2) : ∃ (s : mSt), mMC mT (d + 2) 52 [.ref 21, .ref 5] st (some (.int (nI (slow (c 1) (u 3) (n 0))))) s ∧ N21 s (en_v n c v u) (en_u u) yd ∧ Fr [21, 22, 23] st s := by
  suffices H : ∀ Q : Option Value → mSt → Prop, (∀ (s : mSt), (N21 s (en_v n c v u) (en_u u) yd ∧ Fr [21, 22, 23] st s) → Q (some (.int (nI (slow (c 1) (u 3) (n 0))))) s) → mW (mMC mT (d + 1)) (0, fun _ => 0) (mAtL P_X5_endRound) (some .int) Q 0 [some (.ref 21), some (.ref 5), none, none] [] st by
    obtain ⟨_, _, ⟨s, rfl, rfl, hp⟩, hw⟩ := mW_ex (H (fun vv tt => ∃ (s : mSt),  vv = some (.int (nI (slow (c 1) (u 3) (n 0)))) ∧ s = tt ∧ N21 s (en_v n c v u) (en_u u) yd ∧ Fr [21, 22, 23] st s) (fun s hp => ⟨s, rfl, rfl, hp⟩))
    exact ⟨s, mI_X5_endRound (d := d + 1) (Nat.le_of_ble_eq_true rfl) hw, hp⟩
  intro Q hq
  obtain ⟨hb0, hb1, hb2, hbd, hbs, hby⟩ := id hB
  refine w_blk 4 (pc' := 4) (ls' := [some (.ref 21), some (.ref 5), some (.int 0), some (.int 0)]) (sk' := []) (st' := st) (fun _ h => h) ?_
  have h3 := hU 3 (by omega) (by omega)
  have hsl : ∀ k, k ≤ n 0 → slow (c 1) (u 3) k ≤ 9 := fun k hk => slow_le k (fun i hi => (hbd i (by omega)).2.2.2.1)
  have key : ∀ (m k : Nat), k + m = n 0 → mW (mMC mT (d + 1)) (0, fun _ => 0) (mAtL P_X5_endRound) (some .int) Q 4 [some (.ref 21), some (.ref 5), some (.int (nI (slow (c 1) (u 3) k))), some (.int (nI k))] [] st := by
    intro m
    induction m with
    | zero =>
      intro k hk
      obtain rfl : k = n 0 := by omega
      refine w_blk 3 (pc' := 9) (ls' := [some (.ref 21), some (.ref 5), some (.int (nI (slow (c 1) (u 3) (n 0)))), some (.int (nI (n 0)))]) (sk' := [.int (st.1 5 0), .int (nI (n 0))]) (st' := st) (fun _ h => h) ?_
      rw [hX.1]
      refine w_cmp_ge rfl (fun _ => ?_) (fun hno => absurd (Int32.le_refl _) hno)
      refine w_blk 3 (pc' := 47) (ls' := [some (.ref 21), some (.ref 5), some (.int (nI (slow (c 1) (u 3) (n 0)))), some (.int (nI (n 0)))]) (sk' := [.int (st.1 21 0), .ref 21]) (st' := st) (fun _ h => h) ?_
      rw [hN.1]
      refine w_blk 3 (pc' := 52) (ls' := [some (.ref 21), some (.ref 5), some (.int (nI (slow (c 1) (u 3) (n 0)))), some (.int (nI (n 0)))]) (sk' := []) (st' := ((mU st.1 21 0 ((v 0) + 1)), st.2)) (fun _ h => h) ?_
      have hN_2 : N21 ((mU st.1 21 0 ((v 0) + 1)), st.2) (updI v 0 (v 0 + 1)) u yd := N21_rd hN _
      have hf_3 : Fr [21, 22, 23] st ((mU st.1 21 0 ((v 0) + 1)), st.2) := (Fr.trans (Fr.rf : Fr [21, 22, 23] st st) (Fr.mU (by decide)))
      generalize ((mU st.1 21 0 ((v 0) + 1)), st.2) = s1 at hN_2 hf_3 ⊢
      refine w_blk 3 (pc' := 57) (ls' := [some (.ref 21), some (.ref 5), some (.int (nI (slow (c 1) (u 3) (n 0)))), some (.int (nI (n 0)))]) (sk' := [.int (s1.1 21 1), .ref 21]) (st' := s1) (fun _ h => h) ?_
      rw [(show s1.1 21 1 = v 1 from hN_2.2.1)]
      refine w_blk 3 (pc' := 62) (ls' := [some (.ref 21), some (.ref 5), some (.int (nI (slow (c 1) (u 3) (n 0)))), some (.int (nI (n 0)))]) (sk' := []) (st' := ((mU s1.1 21 1 ((v 1) + (nI (slow (c 1) (u 3) (n 0))))), s1.2)) (fun _ h => h) ?_
      have hN_5 : N21 ((mU s1.1 21 1 ((v 1) + (nI (slow (c 1) (u 3) (n 0))))), s1.2) (en_v n c v u) u yd := N21_bt hN_2 _
      have hf_6 : Fr [21, 22, 23] st ((mU s1.1 21 1 ((v 1) + (nI (slow (c 1) (u 3) (n 0))))), s1.2) := (Fr.trans hf_3 (Fr.mU (by decide)))
      generalize ((mU s1.1 21 1 ((v 1) + (nI (slow (c 1) (u 3) (n 0))))), s1.2) = s4 at hN_5 hf_6 ⊢
      refine w_blk 3 (pc' := 67) (ls' := [some (.ref 21), some (.ref 5), some (.int (nI (slow (c 1) (u 3) (n 0)))), some (.int (nI (n 0)))]) (sk' := []) (st' := ((mU s4.1 21 4 0), s4.2)) (fun _ h => h) ?_
      have hN_8 : N21 ((mU s4.1 21 4 0), s4.2) (en_v n c v u) (updN u 3 0) yd := N21_who hN_5 0
      have hf_9 : Fr [21, 22, 23] st ((mU s4.1 21 4 0), s4.2) := (Fr.trans hf_6 (Fr.mU (by decide)))
      generalize ((mU s4.1 21 4 0), s4.2) = s7 at hN_8 hf_9 ⊢
      refine w_blk 3 (pc' := 72) (ls' := [some (.ref 21), some (.ref 5), some (.int (nI (slow (c 1) (u 3) (n 0)))), some (.int (nI (n 0)))]) (sk' := []) (st' := ((mU s7.1 21 5 0), s7.2)) (fun _ h => h) ?_
      have hN_11 : N21 ((mU s7.1 21 5 0), s7.2) (en_v n c v u) (en_u u) yd := N21_wth hN_8 0
      have hf_12 : Fr [21, 22, 23] st ((mU s7.1 21 5 0), s7.2) := (Fr.trans hf_9 (Fr.mU (by decide)))
      generalize ((mU s7.1 21 5 0), s7.2) = s10 at hN_11 hf_12 ⊢
      refine w_blk 1 (pc' := 73) (ls' := [some (.ref 21), some (.ref 5), some (.int (nI (slow (c 1) (u 3) (n 0)))), some (.int (nI (n 0)))]) (sk' := [.int (nI (slow (c 1) (u 3) (n 0)))]) (st' := s10) (fun _ h => h) ?_
      exact w_iret rfl rfl rfl (hq _ ⟨hN_11, hf_12⟩)
    | succ m ih =>
      intro k hk
      have hk2 : k < n 0 := by omega
      have hsk := hsl k (by omega)
      have hpk := (hbd k hk2).2.2.2.1
      refine w_blk 3 (pc' := 9) (ls' := [some (.ref 21), some (.ref 5), some (.int (nI (slow (c 1) (u 3) k))), some (.int (nI k))]) (sk' := [.int (st.1 5 0), .int (nI k)]) (st' := st) (fun _ h => h) ?_
      rw [hX.1]
      refine w_cmp_ge rfl (fun hno => absurd hno (nI_ge hk2 (by omega))) (fun _ => ?_)
      refine w_blk 2 (pc' := 16) (ls' := [some (.ref 21), some (.ref 5), some (.int (nI (slow (c 1) (u 3) k))), some (.int (nI k))]) (sk' := [.int (st.1 21 4)]) (st' := st) (fun _ h => h) ?_
      rw [hN.2.2.2.2.1]
      refine w_blk 1 (pc' := 17) (ls' := [some (.ref 21), some (.ref 5), some (.int (nI (slow (c 1) (u 3) k))), some (.int (nI k))]) (sk' := [.int (nI k), .int (nI (u 3))]) (st' := st) (fun _ h => h) ?_
      refine w_callS (As := [.int (nI (u 3)), .int (nI k)]) (rest := []) rfl rfl rfl (Nat.le_of_ble_eq_true rfl) (Nat.le_of_ble_eq_true rfl) (c_hasBit (d + 0) (nI (u 3)) (nI k) st) ?_
      rw [show (pI (bitP (nI (u 3)) (nI k))) = pI (Nat.testBit (u 3) k = true) from pI_cong (bitP_nI (n := u 3) (k := k) (by omega) (by omega))]
      refine w_if_eq rfl (fun h1 => ?_) (fun h1 => ?_)
      · replace h1 := pI_eq0.mp h1
        refine w_blk 1 (pc' := 39) (ls' := [some (.ref 21), some (.ref 5), some (.int (nI (slow (c 1) (u 3) k))), some (.int ((nI k) + 1))]) (sk' := []) (st' := st) (fun _ h => h) ?_
        rw [show ((nI k) + 1) = nI (k + 1) from nI_add k 1]
        refine w_blk 1 (pc' := 4) (ls' := [some (.ref 21), some (.ref 5), some (.int (nI (slow (c 1) (u 3) k))), some (.int (nI (k + 1)))]) (sk' := []) (st' := st) (fun _ h => h) ?_
        exact (by have hh := ih (k + 1) (by omega); rw [show slow (c 1) (u 3) (k + 1) = slow (c 1) (u 3) k from if_neg h1] at hh; exact hh)
      · replace h1 := pI_ne.mp h1
        refine w_blk 4 (pc' := 29) (ls' := [some (.ref 21), some (.ref 5), some (.int (nI (slow (c 1) (u 3) k))), some (.int (nI k))]) (sk' := [.int (nI k), .ref 7, .int (nI (slow (c 1) (u 3) k))]) (st' := st) (fun _ h => h) ?_
        refine w_callS (As := [.ref 7, .int (nI k)]) (rest := [.int (nI (slow (c 1) (u 3) k))]) rfl rfl rfl (Nat.le_of_ble_eq_true rfl) (Nat.le_of_ble_eq_true rfl) (c_cellK (d + 0) 7 6 k st (by omega) (by decide) rfl) ?_
        rw [(hX.2.2.2.1 k (by omega)).2.1]
        refine w_callS (As := [.int (nI (slow (c 1) (u 3) k)), .int (nI (c 1 k))]) (rest := []) rfl rfl rfl (Nat.le_of_ble_eq_true rfl) (Nat.le_of_ble_eq_true rfl) (c_maxK (d + 0) (slow (c 1) (u 3) k) (c 1 k) st (by omega) (by omega)) ?_
        refine w_blk 2 (pc' := 39) (ls' := [some (.ref 21), some (.ref 5), some (.int (nI (max (slow (c 1) (u 3) k) (c 1 k)))), some (.int ((nI k) + 1))]) (sk' := []) (st' := st) (fun _ h => h) ?_
        rw [show ((nI k) + 1) = nI (k + 1) from nI_add k 1]
        refine w_blk 1 (pc' := 4) (ls' := [some (.ref 21), some (.ref 5), some (.int (nI (max (slow (c 1) (u 3) k) (c 1 k)))), some (.int (nI (k + 1)))]) (sk' := []) (st' := st) (fun _ h => h) ?_
        exact (by have hh := ih (k + 1) (by omega); rw [show slow (c 1) (u 3) (k + 1) = max (slow (c 1) (u 3) k) (c 1 k) from if_pos h1] at hh; exact hh)
  exact key (n 0 - 0) 0 (by omega)
set_option maxRecDepth 20000 in
/-- endRound(crew) -/
theorem c_endRound_13 (d : Nat) (n : Nat → Nat) (c : Nat → Nat → Nat) (v : Nat → Int32) (u : Nat → Nat) (yd : Nat) (st : mSt) (hX : X13 st n c) (hB : CB n c) (hN : N21 st v u yd) (hU : ∀ j, 3 ≤ j → j < 12 → u j < 256) (hyd : yd ≤ n 2) : ∃ (s : mSt), mMC mT (d + 2) 52 [.ref 21, .ref 13] st (some (.int (nI (slow (c 1) (u 3) (n 0))))) s ∧ N21 s (en_v n c v u) (en_u u) yd ∧ Fr [21, 22, 23] st s := by
  suffices H : ∀ Q : Option Value → mSt → Prop, (∀ (s : mSt), (N21 s (en_v n c v u) (en_u u) yd ∧ Fr [21, 22, 23] st s) → Q (some (.int (nI (slow (c 1) (u 3) (n 0))))) s) → mW (mMC mT (d + 1)) (0, fun _ => 0) (mAtL P_X5_endRound) (some .int) Q 0 [some (.ref 21), some (.ref 13), none, none] [] st by
    obtain ⟨_, _, ⟨s, rfl, rfl, hp⟩, hw⟩ := mW_ex (H (fun vv tt => ∃ (s : mSt),  vv = some (.int (nI (slow (c 1) (u 3) (n 0)))) ∧ s = tt ∧ N21 s (en_v n c v u) (en_u u) yd ∧ Fr [21, 22, 23] st s) (fun s hp => ⟨s, rfl, rfl, hp⟩))
    exact ⟨s, mI_X5_endRound (d := d + 1) (Nat.le_of_ble_eq_true rfl) hw, hp⟩
  intro Q hq
  obtain ⟨hb0, hb1, hb2, hbd, hbs, hby⟩ := id hB
  refine w_blk 4 (pc' := 4) (ls' := [some (.ref 21), some (.ref 13), some (.int 0), some (.int 0)]) (sk' := []) (st' := st) (fun _ h => h) ?_
  have h3 := hU 3 (by omega) (by omega)
  have hsl : ∀ k, k ≤ n 0 → slow (c 1) (u 3) k ≤ 9 := fun k hk => slow_le k (fun i hi => (hbd i (by omega)).2.2.2.1)
  have key : ∀ (m k : Nat), k + m = n 0 → mW (mMC mT (d + 1)) (0, fun _ => 0) (mAtL P_X5_endRound) (some .int) Q 4 [some (.ref 21), some (.ref 13), some (.int (nI (slow (c 1) (u 3) k))), some (.int (nI k))] [] st := by
    intro m
    induction m with
    | zero =>
      intro k hk
      obtain rfl : k = n 0 := by omega
      refine w_blk 3 (pc' := 9) (ls' := [some (.ref 21), some (.ref 13), some (.int (nI (slow (c 1) (u 3) (n 0)))), some (.int (nI (n 0)))]) (sk' := [.int (st.1 13 0), .int (nI (n 0))]) (st' := st) (fun _ h => h) ?_
      rw [hX.1]
      refine w_cmp_ge rfl (fun _ => ?_) (fun hno => absurd (Int32.le_refl _) hno)
      refine w_blk 3 (pc' := 47) (ls' := [some (.ref 21), some (.ref 13), some (.int (nI (slow (c 1) (u 3) (n 0)))), some (.int (nI (n 0)))]) (sk' := [.int (st.1 21 0), .ref 21]) (st' := st) (fun _ h => h) ?_
      rw [hN.1]
      refine w_blk 3 (pc' := 52) (ls' := [some (.ref 21), some (.ref 13), some (.int (nI (slow (c 1) (u 3) (n 0)))), some (.int (nI (n 0)))]) (sk' := []) (st' := ((mU st.1 21 0 ((v 0) + 1)), st.2)) (fun _ h => h) ?_
      have hN_2 : N21 ((mU st.1 21 0 ((v 0) + 1)), st.2) (updI v 0 (v 0 + 1)) u yd := N21_rd hN _
      have hf_3 : Fr [21, 22, 23] st ((mU st.1 21 0 ((v 0) + 1)), st.2) := (Fr.trans (Fr.rf : Fr [21, 22, 23] st st) (Fr.mU (by decide)))
      generalize ((mU st.1 21 0 ((v 0) + 1)), st.2) = s1 at hN_2 hf_3 ⊢
      refine w_blk 3 (pc' := 57) (ls' := [some (.ref 21), some (.ref 13), some (.int (nI (slow (c 1) (u 3) (n 0)))), some (.int (nI (n 0)))]) (sk' := [.int (s1.1 21 1), .ref 21]) (st' := s1) (fun _ h => h) ?_
      rw [(show s1.1 21 1 = v 1 from hN_2.2.1)]
      refine w_blk 3 (pc' := 62) (ls' := [some (.ref 21), some (.ref 13), some (.int (nI (slow (c 1) (u 3) (n 0)))), some (.int (nI (n 0)))]) (sk' := []) (st' := ((mU s1.1 21 1 ((v 1) + (nI (slow (c 1) (u 3) (n 0))))), s1.2)) (fun _ h => h) ?_
      have hN_5 : N21 ((mU s1.1 21 1 ((v 1) + (nI (slow (c 1) (u 3) (n 0))))), s1.2) (en_v n c v u) u yd := N21_bt hN_2 _
      have hf_6 : Fr [21, 22, 23] st ((mU s1.1 21 1 ((v 1) + (nI (slow (c 1) (u 3) (n 0))))), s1.2) := (Fr.trans hf_3 (Fr.mU (by decide)))
      generalize ((mU s1.1 21 1 ((v 1) + (nI (slow (c 1) (u 3) (n 0))))), s1.2) = s4 at hN_5 hf_6 ⊢
      refine w_blk 3 (pc' := 67) (ls' := [some (.ref 21), some (.ref 13), some (.int (nI (slow (c 1) (u 3) (n 0)))), some (.int (nI (n 0)))]) (sk' := []) (st' := ((mU s4.1 21 4 0), s4.2)) (fun _ h => h) ?_
      have hN_8 : N21 ((mU s4.1 21 4 0), s4.2) (en_v n c v u) (updN u 3 0) yd := N21_who hN_5 0
      have hf_9 : Fr [21, 22, 23] st ((mU s4.1 21 4 0), s4.2) := (Fr.trans hf_6 (Fr.mU (by decide)))
      generalize ((mU s4.1 21 4 0), s4.2) = s7 at hN_8 hf_9 ⊢
      refine w_blk 3 (pc' := 72) (ls' := [some (.ref 21), some (.ref 13), some (.int (nI (slow (c 1) (u 3) (n 0)))), some (.int (nI (n 0)))]) (sk' := []) (st' := ((mU s7.1 21 5 0), s7.2)) (fun _ h => h) ?_
      have hN_11 : N21 ((mU s7.1 21 5 0), s7.2) (en_v n c v u) (en_u u) yd := N21_wth hN_8 0
      have hf_12 : Fr [21, 22, 23] st ((mU s7.1 21 5 0), s7.2) := (Fr.trans hf_9 (Fr.mU (by decide)))
      generalize ((mU s7.1 21 5 0), s7.2) = s10 at hN_11 hf_12 ⊢
      refine w_blk 1 (pc' := 73) (ls' := [some (.ref 21), some (.ref 13), some (.int (nI (slow (c 1) (u 3) (n 0)))), some (.int (nI (n 0)))]) (sk' := [.int (nI (slow (c 1) (u 3) (n 0)))]) (st' := s10) (fun _ h => h) ?_
      exact w_iret rfl rfl rfl (hq _ ⟨hN_11, hf_12⟩)
    | succ m ih =>
      intro k hk
      have hk2 : k < n 0 := by omega
      have hsk := hsl k (by omega)
      have hpk := (hbd k hk2).2.2.2.1
      refine w_blk 3 (pc' := 9) (ls' := [some (.ref 21), some (.ref 13), some (.int (nI (slow (c 1) (u 3) k))), some (.int (nI k))]) (sk' := [.int (st.1 13 0), .int (nI k)]) (st' := st) (fun _ h => h) ?_
      rw [hX.1]
      refine w_cmp_ge rfl (fun hno => absurd hno (nI_ge hk2 (by omega))) (fun _ => ?_)
      refine w_blk 2 (pc' := 16) (ls' := [some (.ref 21), some (.ref 13), some (.int (nI (slow (c 1) (u 3) k))), some (.int (nI k))]) (sk' := [.int (st.1 21 4)]) (st' := st) (fun _ h => h) ?_
      rw [hN.2.2.2.2.1]
      refine w_blk 1 (pc' := 17) (ls' := [some (.ref 21), some (.ref 13), some (.int (nI (slow (c 1) (u 3) k))), some (.int (nI k))]) (sk' := [.int (nI k), .int (nI (u 3))]) (st' := st) (fun _ h => h) ?_
      refine w_callS (As := [.int (nI (u 3)), .int (nI k)]) (rest := []) rfl rfl rfl (Nat.le_of_ble_eq_true rfl) (Nat.le_of_ble_eq_true rfl) (c_hasBit (d + 0) (nI (u 3)) (nI k) st) ?_
      rw [show (pI (bitP (nI (u 3)) (nI k))) = pI (Nat.testBit (u 3) k = true) from pI_cong (bitP_nI (n := u 3) (k := k) (by omega) (by omega))]
      refine w_if_eq rfl (fun h1 => ?_) (fun h1 => ?_)
      · replace h1 := pI_eq0.mp h1
        refine w_blk 1 (pc' := 39) (ls' := [some (.ref 21), some (.ref 13), some (.int (nI (slow (c 1) (u 3) k))), some (.int ((nI k) + 1))]) (sk' := []) (st' := st) (fun _ h => h) ?_
        rw [show ((nI k) + 1) = nI (k + 1) from nI_add k 1]
        refine w_blk 1 (pc' := 4) (ls' := [some (.ref 21), some (.ref 13), some (.int (nI (slow (c 1) (u 3) k))), some (.int (nI (k + 1)))]) (sk' := []) (st' := st) (fun _ h => h) ?_
        exact (by have hh := ih (k + 1) (by omega); rw [show slow (c 1) (u 3) (k + 1) = slow (c 1) (u 3) k from if_neg h1] at hh; exact hh)
      · replace h1 := pI_ne.mp h1
        refine w_blk 4 (pc' := 29) (ls' := [some (.ref 21), some (.ref 13), some (.int (nI (slow (c 1) (u 3) k))), some (.int (nI k))]) (sk' := [.int (nI k), .ref 15, .int (nI (slow (c 1) (u 3) k))]) (st' := st) (fun _ h => h) ?_
        refine w_callS (As := [.ref 15, .int (nI k)]) (rest := [.int (nI (slow (c 1) (u 3) k))]) rfl rfl rfl (Nat.le_of_ble_eq_true rfl) (Nat.le_of_ble_eq_true rfl) (c_cellK (d + 0) 15 6 k st (by omega) (by decide) rfl) ?_
        rw [(hX.2.2.2.1 k (by omega)).2.1]
        refine w_callS (As := [.int (nI (slow (c 1) (u 3) k)), .int (nI (c 1 k))]) (rest := []) rfl rfl rfl (Nat.le_of_ble_eq_true rfl) (Nat.le_of_ble_eq_true rfl) (c_maxK (d + 0) (slow (c 1) (u 3) k) (c 1 k) st (by omega) (by omega)) ?_
        refine w_blk 2 (pc' := 39) (ls' := [some (.ref 21), some (.ref 13), some (.int (nI (max (slow (c 1) (u 3) k) (c 1 k)))), some (.int ((nI k) + 1))]) (sk' := []) (st' := st) (fun _ h => h) ?_
        rw [show ((nI k) + 1) = nI (k + 1) from nI_add k 1]
        refine w_blk 1 (pc' := 4) (ls' := [some (.ref 21), some (.ref 13), some (.int (nI (max (slow (c 1) (u 3) k) (c 1 k)))), some (.int (nI (k + 1)))]) (sk' := []) (st' := st) (fun _ h => h) ?_
        exact (by have hh := ih (k + 1) (by omega); rw [show slow (c 1) (u 3) (k + 1) = max (slow (c 1) (u 3) k) (c 1 k) from if_pos h1] at hh; exact hh)
  exact key (n 0 - 0) 0 (by omega)
set_option maxRecDepth 20000 in
/-- ends -/
theorem x_ends_5 (d : Nat) (n : Nat → Nat) (c : Nat → Nat → Nat) (v : Nat → Int32) (u : Nat → Nat) (yd : Nat) (st : mSt) (hcw : st.1 0 1 = nI 5) (hX : X5 st n c) (hB : CB n c) (hN : N21 st v u yd) (hU : ∀ j, 3 ≤ j → j < 12 → u j < 256) (hyd : yd ≤ n 2) : ∃ (s : mSt), mMC mT (d + 3) 93 [.ref 0] st (some (.int (nI (slow (c 1) (u 3) (n 0))))) s ∧ N21 s (en_v n c v u) (en_u u) yd ∧ Fr [21, 22, 23] st s := by
  suffices H : ∀ Q : Option Value → mSt → Prop, (∀ (s : mSt), (N21 s (en_v n c v u) (en_u u) yd ∧ Fr [21, 22, 23] st s) → Q (some (.int (nI (slow (c 1) (u 3) (n 0))))) s) → mW (mMC mT (d + 2)) (0, fun _ => 0) (mAtL P_X9_ends) (some .int) Q 0 [some (.ref 0)] [] st by
    obtain ⟨_, _, ⟨s, rfl, rfl, hp⟩, hw⟩ := mW_ex (H (fun vv tt => ∃ (s : mSt),  vv = some (.int (nI (slow (c 1) (u 3) (n 0)))) ∧ s = tt ∧ N21 s (en_v n c v u) (en_u u) yd ∧ Fr [21, 22, 23] st s) (fun s hp => ⟨s, rfl, rfl, hp⟩))
    exact ⟨s, mI_X9_ends (d := d + 2) (Nat.le_of_ble_eq_true rfl) hw, hp⟩
  intro Q hq
  have hcr : (st.1 0 1).toNatClampNeg = 5 := by rw [hcw]; rfl
  refine w_blk 3 (pc' := 5) (ls' := [some (.ref 0)]) (sk' := [.ref 0, .ref 21]) (st' := st) (fun _ h => h) ?_
  refine w_blk 1 (pc' := 8) (ls' := [some (.ref 0)]) (sk' := [.ref (Int32.toNatClampNeg (st.1 0 1)), .ref 21]) (st' := st) (fun _ h => h) ?_
  rw [hcr]
  obtain ⟨s1, hc_2, hN_3, hf_4⟩ := c_endRound_5 (d + 0) n c v u yd st hX hB hN hU hyd
  refine w_callV (As := [.ref 21, .ref 5]) (rest := []) rfl rfl rfl (Nat.le_of_ble_eq_true rfl) (Nat.le_of_ble_eq_true rfl) (by first | exact Or.inl ⟨rfl, rfl⟩ | exact Or.inr ⟨rfl, rfl⟩) hc_2 ?_
  exact w_iret rfl rfl rfl (hq _ ⟨hN_3, hf_4⟩)
set_option maxRecDepth 20000 in
/-- ends -/
theorem x_ends_13 (d : Nat) (n : Nat → Nat) (c : Nat → Nat → Nat) (v : Nat → Int32) (u : Nat → Nat) (yd : Nat) (st : mSt) (hcw : st.1 0 1 = nI 13) (hX : X13 st n c) (hB : CB n c) (hN : N21 st v u yd) (hU : ∀ j, 3 ≤ j → j < 12 → u j < 256) (hyd : yd ≤ n 2) : ∃ (s : mSt), mMC mT (d + 3) 93 [.ref 0] st (some (.int (nI (slow (c 1) (u 3) (n 0))))) s ∧ N21 s (en_v n c v u) (en_u u) yd ∧ Fr [21, 22, 23] st s := by
  suffices H : ∀ Q : Option Value → mSt → Prop, (∀ (s : mSt), (N21 s (en_v n c v u) (en_u u) yd ∧ Fr [21, 22, 23] st s) → Q (some (.int (nI (slow (c 1) (u 3) (n 0))))) s) → mW (mMC mT (d + 2)) (0, fun _ => 0) (mAtL P_X9_ends) (some .int) Q 0 [some (.ref 0)] [] st by
    obtain ⟨_, _, ⟨s, rfl, rfl, hp⟩, hw⟩ := mW_ex (H (fun vv tt => ∃ (s : mSt),  vv = some (.int (nI (slow (c 1) (u 3) (n 0)))) ∧ s = tt ∧ N21 s (en_v n c v u) (en_u u) yd ∧ Fr [21, 22, 23] st s) (fun s hp => ⟨s, rfl, rfl, hp⟩))
    exact ⟨s, mI_X9_ends (d := d + 2) (Nat.le_of_ble_eq_true rfl) hw, hp⟩
  intro Q hq
  have hcr : (st.1 0 1).toNatClampNeg = 13 := by rw [hcw]; rfl
  refine w_blk 3 (pc' := 5) (ls' := [some (.ref 0)]) (sk' := [.ref 0, .ref 21]) (st' := st) (fun _ h => h) ?_
  refine w_blk 1 (pc' := 8) (ls' := [some (.ref 0)]) (sk' := [.ref (Int32.toNatClampNeg (st.1 0 1)), .ref 21]) (st' := st) (fun _ h => h) ?_
  rw [hcr]
  obtain ⟨s1, hc_2, hN_3, hf_4⟩ := c_endRound_13 (d + 0) n c v u yd st hX hB hN hU hyd
  refine w_callV (As := [.ref 21, .ref 13]) (rest := []) rfl rfl rfl (Nat.le_of_ble_eq_true rfl) (Nat.le_of_ble_eq_true rfl) (by first | exact Or.inl ⟨rfl, rfl⟩ | exact Or.inr ⟨rfl, rfl⟩) hc_2 ?_
  exact w_iret rfl rfl rfl (hq _ ⟨hN_3, hf_4⟩)
set_option maxRecDepth 20000 in
/-- breaks -/
theorem x_breaks_5 (d : Nat) (n : Nat → Nat) (c : Nat → Nat → Nat) (v : Nat → Int32) (u : Nat → Nat) (yd : Nat) (x : Int32) (st : mSt) (hcw : st.1 0 1 = nI 5) (hX : X5 st n c) (hB : CB n c) (hN : N21 st v u yd) (hU : ∀ j, 3 ≤ j → j < 12 → u j < 256) (hyd : yd ≤ n 2) : ∃ (s : mSt), mMC mT (d + 3) 94 [.ref 0, .int x] st (some (.int (sp_breaks n u x))) s ∧ N21 s v (br_u n u x) yd ∧ Fr [21, 22, 23] st s := by
  suffices H : ∀ Q : Option Value → mSt → Prop, (∀ (s : mSt), (N21 s v (br_u n u x) yd ∧ Fr [21, 22, 23] st s) → Q (some (.int (sp_breaks n u x))) s) → mW (mMC mT (d + 2)) (0, fun _ => 0) (mAtL P_X9_breaks) (some .int) Q 0 [some (.ref 0), some (.int x)] [] st by
    obtain ⟨_, _, ⟨s, rfl, rfl, hp⟩, hw⟩ := mW_ex (H (fun vv tt => ∃ (s : mSt),  vv = some (.int (sp_breaks n u x)) ∧ s = tt ∧ N21 s v (br_u n u x) yd ∧ Fr [21, 22, 23] st s) (fun s hp => ⟨s, rfl, rfl, hp⟩))
    exact ⟨s, mI_X9_breaks (d := d + 2) (Nat.le_of_ble_eq_true rfl) hw, hp⟩
  intro Q hq
  have hcr : (st.1 0 1).toNatClampNeg = 5 := by rw [hcw]; rfl
  obtain ⟨hb0, hb1, hb2, hbd, hbs, hby⟩ := id hB
  refine w_blk 1 (pc' := 1) (ls' := [some (.ref 0), some (.int x)]) (sk' := [.ref 0]) (st' := st) (fun _ h => h) ?_
  refine w_blk 1 (pc' := 4) (ls' := [some (.ref 0), some (.int x)]) (sk' := [.ref (Int32.toNatClampNeg (st.1 0 1))]) (st' := st) (fun _ h => h) ?_
  rw [hcr]
  refine w_blk 1 (pc' := 5) (ls' := [some (.ref 0), some (.int x)]) (sk' := [.int x, .ref 5]) (st' := st) (fun _ h => h) ?_
  refine w_callV (As := [.ref 5, .int x]) (rest := []) rfl rfl rfl (Nat.le_of_ble_eq_true rfl) (Nat.le_of_ble_eq_true rfl) (by first | exact Or.inl ⟨rfl, rfl⟩ | exact Or.inr ⟨rfl, rfl⟩) (c_hasSpade_5 (d + 1) x st) ?_
  rw [hX.2.1]
  refine w_if_ne rfl (fun h1 => ?_) (fun h1 => ?_)
  · replace h1 := pI_ne.mp h1
    obtain ⟨k, hk, rfl⟩ := nI_in2 (by omega) h1
    refine w_blk 3 (pc' := 20) (ls' := [some (.ref 0), some (.int (nI k))]) (sk' := [.int (st.1 21 6)]) (st' := st) (fun _ h => h) ?_
    rw [hN.2.2.2.2.2.2.1]
    refine w_blk 1 (pc' := 21) (ls' := [some (.ref 0), some (.int (nI k))]) (sk' := [.int (nI k), .int (nI (u 5))]) (st' := st) (fun _ h => h) ?_
    refine w_callS (As := [.int (nI (u 5)), .int (nI k)]) (rest := []) rfl rfl rfl (Nat.le_of_ble_eq_true rfl) (Nat.le_of_ble_eq_true rfl) (c_hasBit (d + 1) (nI (u 5)) (nI k) st) ?_
    rw [show (pI (bitP (nI (u 5)) (nI k))) = pI (Nat.testBit (u 5) k = true) from pI_cong (bitP_nI (n := u 5) (k := k) (by omega) (by have := hU 5 (by omega) (by omega); omega))]
    refine w_if_eq rfl (fun h2 => ?_) (fun h2 => ?_)
    · replace h2 := pI_eq0.mp h2
      refine w_blk 4 (pc' := 37) (ls' := [some (.ref 0), some (.int (nI k))]) (sk' := [.int (st.1 21 6), .ref 21]) (st' := st) (fun _ h => h) ?_
      rw [hN.2.2.2.2.2.2.1]
      refine w_blk 3 (pc' := 40) (ls' := [some (.ref 0), some (.int (nI k))]) (sk' := [.int (1 <<< ((nI k) &&& 31)), .int (nI (u 5)), .ref 21]) (st' := st) (fun _ h => h) ?_
      rw [show (1 <<< ((nI k) &&& 31)) = nI (2 ^ k) from nI_shl1 (by omega)]
      refine w_blk 1 (pc' := 41) (ls' := [some (.ref 0), some (.int (nI k))]) (sk' := [.int ((nI (u 5)) ||| (nI (2 ^ k))), .ref 21]) (st' := st) (fun _ h => h) ?_
      rw [show ((nI (u 5)) ||| (nI (2 ^ k))) = nI ((u 5) ||| (2 ^ k)) from nI_or (u 5) (2 ^ k)]
      refine w_blk 2 (pc' := 45) (ls' := [some (.ref 0), some (.int (nI k))]) (sk' := [.int 1]) (st' := ((mU st.1 21 6 (nI ((u 5) ||| (2 ^ k)))), st.2)) (fun _ h => h) ?_
      have hok : ok1 n (nI k) := nI_in3 (by omega) hk
      have hN_2 : N21 ((mU st.1 21 6 (nI ((u 5) ||| (2 ^ k)))), st.2) v (updN u 5 (u 5 ||| 2 ^ k)) yd := N21_brk hN _
      have hf_3 : Fr [21, 22, 23] st ((mU st.1 21 6 (nI ((u 5) ||| (2 ^ k)))), st.2) := (Fr.trans (Fr.rf : Fr [21, 22, 23] st st) (Fr.mU (by decide)))
      generalize ((mU st.1 21 6 (nI ((u 5) ||| (2 ^ k)))), st.2) = s1 at hN_2 hf_3 ⊢
      rw [show sp_breaks n u (nI k) = 1 from (if_pos hok).trans (if_neg (by rw [nI_clamp (show k < 2 ^ 31 by omega)]; exact h2)), show br_u n u (nI k) = updN u 5 (u 5 ||| 2 ^ k) from (if_pos hok).trans (by rw [nI_clamp (show k < 2 ^ 31 by omega)])] at hq
      exact w_iret rfl rfl rfl (hq _ ⟨hN_2, hf_3⟩)
    · replace h2 := pI_ne.mp h2
      refine w_blk 1 (pc' := 28) (ls' := [some (.ref 0), some (.int (nI k))]) (sk' := [.int 0]) (st' := st) (fun _ h => h) ?_
      have hok : ok1 n (nI k) := nI_in3 (by omega) hk
      rw [show sp_breaks n u (nI k) = 0 from (if_pos hok).trans (if_pos (by rw [nI_clamp (show k < 2 ^ 31 by omega)]; exact h2)), show br_u n u (nI k) = u from (if_pos hok).trans (by rw [nI_clamp (show k < 2 ^ 31 by omega), or_same h2, updN_id])] at hq
      exact w_iret rfl rfl rfl (hq _ ⟨hN, Fr.rf⟩)
  · replace h1 := pI_eq0.mp (Decidable.not_not.mp h1)
    refine w_blk 1 (pc' := 12) (ls' := [some (.ref 0), some (.int x)]) (sk' := [.int (-1)]) (st' := st) (fun _ h => h) ?_
    rw [show sp_breaks n u x = -1 from if_neg h1, show br_u n u x = u from if_neg h1] at hq
    exact w_iret rfl rfl rfl (hq _ ⟨hN, Fr.rf⟩)
set_option maxRecDepth 20000 in
/-- breaks -/
theorem x_breaks_13 (d : Nat) (n : Nat → Nat) (c : Nat → Nat → Nat) (v : Nat → Int32) (u : Nat → Nat) (yd : Nat) (x : Int32) (st : mSt) (hcw : st.1 0 1 = nI 13) (hX : X13 st n c) (hB : CB n c) (hN : N21 st v u yd) (hU : ∀ j, 3 ≤ j → j < 12 → u j < 256) (hyd : yd ≤ n 2) : ∃ (s : mSt), mMC mT (d + 3) 94 [.ref 0, .int x] st (some (.int (sp_breaks n u x))) s ∧ N21 s v (br_u n u x) yd ∧ Fr [21, 22, 23] st s := by
  suffices H : ∀ Q : Option Value → mSt → Prop, (∀ (s : mSt), (N21 s v (br_u n u x) yd ∧ Fr [21, 22, 23] st s) → Q (some (.int (sp_breaks n u x))) s) → mW (mMC mT (d + 2)) (0, fun _ => 0) (mAtL P_X9_breaks) (some .int) Q 0 [some (.ref 0), some (.int x)] [] st by
    obtain ⟨_, _, ⟨s, rfl, rfl, hp⟩, hw⟩ := mW_ex (H (fun vv tt => ∃ (s : mSt),  vv = some (.int (sp_breaks n u x)) ∧ s = tt ∧ N21 s v (br_u n u x) yd ∧ Fr [21, 22, 23] st s) (fun s hp => ⟨s, rfl, rfl, hp⟩))
    exact ⟨s, mI_X9_breaks (d := d + 2) (Nat.le_of_ble_eq_true rfl) hw, hp⟩
  intro Q hq
  have hcr : (st.1 0 1).toNatClampNeg = 13 := by rw [hcw]; rfl
  obtain ⟨hb0, hb1, hb2, hbd, hbs, hby⟩ := id hB
  refine w_blk 1 (pc' := 1) (ls' := [some (.ref 0), some (.int x)]) (sk' := [.ref 0]) (st' := st) (fun _ h => h) ?_
  refine w_blk 1 (pc' := 4) (ls' := [some (.ref 0), some (.int x)]) (sk' := [.ref (Int32.toNatClampNeg (st.1 0 1))]) (st' := st) (fun _ h => h) ?_
  rw [hcr]
  refine w_blk 1 (pc' := 5) (ls' := [some (.ref 0), some (.int x)]) (sk' := [.int x, .ref 13]) (st' := st) (fun _ h => h) ?_
  refine w_callV (As := [.ref 13, .int x]) (rest := []) rfl rfl rfl (Nat.le_of_ble_eq_true rfl) (Nat.le_of_ble_eq_true rfl) (by first | exact Or.inl ⟨rfl, rfl⟩ | exact Or.inr ⟨rfl, rfl⟩) (c_hasSpade_13 (d + 1) x st) ?_
  rw [hX.2.1]
  refine w_if_ne rfl (fun h1 => ?_) (fun h1 => ?_)
  · replace h1 := pI_ne.mp h1
    obtain ⟨k, hk, rfl⟩ := nI_in2 (by omega) h1
    refine w_blk 3 (pc' := 20) (ls' := [some (.ref 0), some (.int (nI k))]) (sk' := [.int (st.1 21 6)]) (st' := st) (fun _ h => h) ?_
    rw [hN.2.2.2.2.2.2.1]
    refine w_blk 1 (pc' := 21) (ls' := [some (.ref 0), some (.int (nI k))]) (sk' := [.int (nI k), .int (nI (u 5))]) (st' := st) (fun _ h => h) ?_
    refine w_callS (As := [.int (nI (u 5)), .int (nI k)]) (rest := []) rfl rfl rfl (Nat.le_of_ble_eq_true rfl) (Nat.le_of_ble_eq_true rfl) (c_hasBit (d + 1) (nI (u 5)) (nI k) st) ?_
    rw [show (pI (bitP (nI (u 5)) (nI k))) = pI (Nat.testBit (u 5) k = true) from pI_cong (bitP_nI (n := u 5) (k := k) (by omega) (by have := hU 5 (by omega) (by omega); omega))]
    refine w_if_eq rfl (fun h2 => ?_) (fun h2 => ?_)
    · replace h2 := pI_eq0.mp h2
      refine w_blk 4 (pc' := 37) (ls' := [some (.ref 0), some (.int (nI k))]) (sk' := [.int (st.1 21 6), .ref 21]) (st' := st) (fun _ h => h) ?_
      rw [hN.2.2.2.2.2.2.1]
      refine w_blk 3 (pc' := 40) (ls' := [some (.ref 0), some (.int (nI k))]) (sk' := [.int (1 <<< ((nI k) &&& 31)), .int (nI (u 5)), .ref 21]) (st' := st) (fun _ h => h) ?_
      rw [show (1 <<< ((nI k) &&& 31)) = nI (2 ^ k) from nI_shl1 (by omega)]
      refine w_blk 1 (pc' := 41) (ls' := [some (.ref 0), some (.int (nI k))]) (sk' := [.int ((nI (u 5)) ||| (nI (2 ^ k))), .ref 21]) (st' := st) (fun _ h => h) ?_
      rw [show ((nI (u 5)) ||| (nI (2 ^ k))) = nI ((u 5) ||| (2 ^ k)) from nI_or (u 5) (2 ^ k)]
      refine w_blk 2 (pc' := 45) (ls' := [some (.ref 0), some (.int (nI k))]) (sk' := [.int 1]) (st' := ((mU st.1 21 6 (nI ((u 5) ||| (2 ^ k)))), st.2)) (fun _ h => h) ?_
      have hok : ok1 n (nI k) := nI_in3 (by omega) hk
      have hN_2 : N21 ((mU st.1 21 6 (nI ((u 5) ||| (2 ^ k)))), st.2) v (updN u 5 (u 5 ||| 2 ^ k)) yd := N21_brk hN _
      have hf_3 : Fr [21, 22, 23] st ((mU st.1 21 6 (nI ((u 5) ||| (2 ^ k)))), st.2) := (Fr.trans (Fr.rf : Fr [21, 22, 23] st st) (Fr.mU (by decide)))
      generalize ((mU st.1 21 6 (nI ((u 5) ||| (2 ^ k)))), st.2) = s1 at hN_2 hf_3 ⊢
      rw [show sp_breaks n u (nI k) = 1 from (if_pos hok).trans (if_neg (by rw [nI_clamp (show k < 2 ^ 31 by omega)]; exact h2)), show br_u n u (nI k) = updN u 5 (u 5 ||| 2 ^ k) from (if_pos hok).trans (by rw [nI_clamp (show k < 2 ^ 31 by omega)])] at hq
      exact w_iret rfl rfl rfl (hq _ ⟨hN_2, hf_3⟩)
    · replace h2 := pI_ne.mp h2
      refine w_blk 1 (pc' := 28) (ls' := [some (.ref 0), some (.int (nI k))]) (sk' := [.int 0]) (st' := st) (fun _ h => h) ?_
      have hok : ok1 n (nI k) := nI_in3 (by omega) hk
      rw [show sp_breaks n u (nI k) = 0 from (if_pos hok).trans (if_pos (by rw [nI_clamp (show k < 2 ^ 31 by omega)]; exact h2)), show br_u n u (nI k) = u from (if_pos hok).trans (by rw [nI_clamp (show k < 2 ^ 31 by omega), or_same h2, updN_id])] at hq
      exact w_iret rfl rfl rfl (hq _ ⟨hN, Fr.rf⟩)
  · replace h1 := pI_eq0.mp (Decidable.not_not.mp h1)
    refine w_blk 1 (pc' := 12) (ls' := [some (.ref 0), some (.int x)]) (sk' := [.int (-1)]) (st' := st) (fun _ h => h) ?_
    rw [show sp_breaks n u x = -1 from if_neg h1, show br_u n u x = u from if_neg h1] at hq
    exact w_iret rfl rfl rfl (hq _ ⟨hN, Fr.rf⟩)
set_option maxRecDepth 20000 in
/-- now -/
theorem x_now (d : Nat) (v : Nat → Int32) (u : Nat → Nat) (yd : Nat) (w : Int32) (st : mSt) (hN : N21 st v u yd) : mMC mT (d + 1) 95 [.ref 0, .int w] st (some (.int (sp_now v u yd w))) st := by
  refine mI_X9_now (d := d + 0) (Nat.le_of_ble_eq_true rfl) (fun Q hq => ?_)
  show mW (mMC mT (d + 0)) (0, fun _ => 0) (mAtL P_X9_now) (some .int) Q 0 [some (.ref 0), some (.int w)] [] st
  refine w_blk 1 (pc' := 1) (ls' := [some (.ref 0), some (.int w)]) (sk' := [.int w]) (st' := st) (fun _ h => h) ?_
  by_cases hw0 : w = 0
  · subst hw0
    refine w_tblIn (t := 40) rfl (by decide) (by decide) rfl rfl ?_
    refine w_blk 3 (pc' := 47) (ls' := [some (.ref 0), some (.int 0)]) (sk' := [.int (st.1 21 0)]) (st' := st) (fun _ h => h) ?_
    rw [hN.1]
    rw [show sp_now v u yd 0 = (v 0) from if_pos rfl] at hq
    exact w_iret rfl rfl rfl hq
  · by_cases hw1 : w = 1
    · subst hw1
      refine w_tblIn (t := 48) rfl (by decide) (by decide) rfl rfl ?_
      refine w_blk 3 (pc' := 55) (ls' := [some (.ref 0), some (.int 1)]) (sk' := [.int (st.1 21 1)]) (st' := st) (fun _ h => h) ?_
      rw [hN.2.1]
      rw [show sp_now v u yd 1 = (v 1) from (if_neg (by decide)).trans <| if_pos rfl] at hq
      exact w_iret rfl rfl rfl hq
    · by_cases hw2 : w = 2
      · subst hw2
        refine w_tblIn (t := 56) rfl (by decide) (by decide) rfl rfl ?_
        refine w_blk 3 (pc' := 63) (ls' := [some (.ref 0), some (.int 2)]) (sk' := [.int (st.1 21 2)]) (st' := st) (fun _ h => h) ?_
        rw [hN.2.2.1]
        rw [show sp_now v u yd 2 = (v 2) from (if_neg (by decide)).trans <| (if_neg (by decide)).trans <| if_pos rfl] at hq
        exact w_iret rfl rfl rfl hq
      · by_cases hw3 : w = 3
        · subst hw3
          refine w_tblIn (t := 64) rfl (by decide) (by decide) rfl rfl ?_
          refine w_blk 3 (pc' := 71) (ls' := [some (.ref 0), some (.int 3)]) (sk' := [.int (st.1 21 3)]) (st' := st) (fun _ h => h) ?_
          rw [hN.2.2.2.1]
          rw [show sp_now v u yd 3 = (nI yd) from (if_neg (by decide)).trans <| (if_neg (by decide)).trans <| (if_neg (by decide)).trans <| if_pos rfl] at hq
          exact w_iret rfl rfl rfl hq
        · by_cases hw4 : w = 4
          · subst hw4
            refine w_tblIn (t := 72) rfl (by decide) (by decide) rfl rfl ?_
            refine w_blk 3 (pc' := 79) (ls' := [some (.ref 0), some (.int 4)]) (sk' := [.int (st.1 21 4)]) (st' := st) (fun _ h => h) ?_
            rw [hN.2.2.2.2.1]
            rw [show sp_now v u yd 4 = (nI (u 3)) from (if_neg (by decide)).trans <| (if_neg (by decide)).trans <| (if_neg (by decide)).trans <| (if_neg (by decide)).trans <| if_pos rfl] at hq
            exact w_iret rfl rfl rfl hq
          · by_cases hw5 : w = 5
            · subst hw5
              refine w_tblIn (t := 80) rfl (by decide) (by decide) rfl rfl ?_
              refine w_blk 3 (pc' := 87) (ls' := [some (.ref 0), some (.int 5)]) (sk' := [.int (st.1 21 5)]) (st' := st) (fun _ h => h) ?_
              rw [hN.2.2.2.2.2.1]
              rw [show sp_now v u yd 5 = (nI (u 4)) from (if_neg (by decide)).trans <| (if_neg (by decide)).trans <| (if_neg (by decide)).trans <| (if_neg (by decide)).trans <| (if_neg (by decide)).trans <| if_pos rfl] at hq
              exact w_iret rfl rfl rfl hq
            · refine w_tblOut (t := 88) rfl (tbl_out 5 (by decide) (by intro k hk; rcases (show k = 0 ∨ k = 1 ∨ k = 2 ∨ k = 3 ∨ k = 4 ∨ k = 5 by omega) with rfl | rfl | rfl | rfl | rfl | rfl <;> assumption)) rfl ?_
              rw [show sp_now v u yd w = -1 from ((((((if_neg hw0).trans (if_neg hw1)).trans (if_neg hw2)).trans (if_neg hw3)).trans (if_neg hw4)).trans (if_neg hw5))] at hq
              refine w_blk 1 (pc' := 89) (ls' := [some (.ref 0), some (.int w)]) (sk' := [.int (-1)]) (st' := st) (fun _ h => h) ?_
              exact w_iret rfl rfl rfl hq
set_option maxRecDepth 20000 in
/-- count -/
theorem x_count_5 (d : Nat) (n : Nat → Nat) (c : Nat → Nat → Nat) (a b l : Nat) (w : Int32) (st : mSt) (hcw : st.1 0 1 = nI 5) (hX : X5 st n c) (ha : st.1 45 0 = nI a) (hb : st.1 49 0 = nI b) (hl : st.1 1 0 = nI l) : mMC mT (d + 1) 112 [.ref 0, .int w] st (some (.int (sp_count n a b l w))) st := by
  refine mI_X9_count (d := d + 0) (Nat.le_of_ble_eq_true rfl) (fun Q hq => ?_)
  show mW (mMC mT (d + 0)) (0, fun _ => 0) (mAtL P_X9_count) (some .int) Q 0 [some (.ref 0), some (.int w)] [] st
  have hcr : (st.1 0 1).toNatClampNeg = 5 := by rw [hcw]; rfl
  refine w_blk 1 (pc' := 1) (ls' := [some (.ref 0), some (.int w)]) (sk' := [.int w]) (st' := st) (fun _ h => h) ?_
  by_cases hw0 : w = 0
  · subst hw0
    refine w_tblIn (t := 40) rfl (by decide) (by decide) rfl rfl ?_
    refine w_blk 1 (pc' := 41) (ls' := [some (.ref 0), some (.int 0)]) (sk' := [.ref 0]) (st' := st) (fun _ h => h) ?_
    refine w_blk 1 (pc' := 44) (ls' := [some (.ref 0), some (.int 0)]) (sk' := [.ref (Int32.toNatClampNeg (st.1 0 1))]) (st' := st) (fun _ h => h) ?_
    rw [hcr]
    refine w_blk 1 (pc' := 47) (ls' := [some (.ref 0), some (.int 0)]) (sk' := [.int (st.1 5 0)]) (st' := st) (fun _ h => h) ?_
    rw [hX.1]
    rw [show sp_count n a b l 0 = (nI (n 0)) from if_pos rfl] at hq
    exact w_iret rfl rfl rfl hq
  · by_cases hw1 : w = 1
    · subst hw1
      refine w_tblIn (t := 48) rfl (by decide) (by decide) rfl rfl ?_
      refine w_blk 1 (pc' := 49) (ls' := [some (.ref 0), some (.int 1)]) (sk' := [.ref 0]) (st' := st) (fun _ h => h) ?_
      refine w_blk 1 (pc' := 52) (ls' := [some (.ref 0), some (.int 1)]) (sk' := [.ref (Int32.toNatClampNeg (st.1 0 1))]) (st' := st) (fun _ h => h) ?_
      rw [hcr]
      refine w_blk 1 (pc' := 55) (ls' := [some (.ref 0), some (.int 1)]) (sk' := [.int (st.1 5 1)]) (st' := st) (fun _ h => h) ?_
      rw [hX.2.1]
      rw [show sp_count n a b l 1 = (nI (n 1)) from (if_neg (by decide)).trans <| if_pos rfl] at hq
      exact w_iret rfl rfl rfl hq
    · by_cases hw2 : w = 2
      · subst hw2
        refine w_tblIn (t := 56) rfl (by decide) (by decide) rfl rfl ?_
        refine w_blk 1 (pc' := 57) (ls' := [some (.ref 0), some (.int 2)]) (sk' := [.ref 0]) (st' := st) (fun _ h => h) ?_
        refine w_blk 1 (pc' := 60) (ls' := [some (.ref 0), some (.int 2)]) (sk' := [.ref (Int32.toNatClampNeg (st.1 0 1))]) (st' := st) (fun _ h => h) ?_
        rw [hcr]
        refine w_blk 1 (pc' := 63) (ls' := [some (.ref 0), some (.int 2)]) (sk' := [.int (st.1 5 2)]) (st' := st) (fun _ h => h) ?_
        rw [hX.2.2.1]
        rw [show sp_count n a b l 2 = (nI (n 2)) from (if_neg (by decide)).trans <| (if_neg (by decide)).trans <| if_pos rfl] at hq
        exact w_iret rfl rfl rfl hq
      · by_cases hw3 : w = 3
        · subst hw3
          refine w_tblIn (t := 64) rfl (by decide) (by decide) rfl rfl ?_
          refine w_blk 3 (pc' := 71) (ls' := [some (.ref 0), some (.int 3)]) (sk' := [.int (st.1 45 0)]) (st' := st) (fun _ h => h) ?_
          rw [ha]
          rw [show sp_count n a b l 3 = (nI a) from (if_neg (by decide)).trans <| (if_neg (by decide)).trans <| (if_neg (by decide)).trans <| if_pos rfl] at hq
          exact w_iret rfl rfl rfl hq
        · by_cases hw4 : w = 4
          · subst hw4
            refine w_tblIn (t := 72) rfl (by decide) (by decide) rfl rfl ?_
            refine w_blk 3 (pc' := 79) (ls' := [some (.ref 0), some (.int 4)]) (sk' := [.int (st.1 49 0)]) (st' := st) (fun _ h => h) ?_
            rw [hb]
            rw [show sp_count n a b l 4 = (nI b) from (if_neg (by decide)).trans <| (if_neg (by decide)).trans <| (if_neg (by decide)).trans <| (if_neg (by decide)).trans <| if_pos rfl] at hq
            exact w_iret rfl rfl rfl hq
          · by_cases hw5 : w = 5
            · subst hw5
              refine w_tblIn (t := 80) rfl (by decide) (by decide) rfl rfl ?_
              refine w_blk 3 (pc' := 87) (ls' := [some (.ref 0), some (.int 5)]) (sk' := [.int (st.1 1 0)]) (st' := st) (fun _ h => h) ?_
              rw [hl]
              rw [show sp_count n a b l 5 = (nI l) from (if_neg (by decide)).trans <| (if_neg (by decide)).trans <| (if_neg (by decide)).trans <| (if_neg (by decide)).trans <| (if_neg (by decide)).trans <| if_pos rfl] at hq
              exact w_iret rfl rfl rfl hq
            · refine w_tblOut (t := 88) rfl (tbl_out 5 (by decide) (by intro k hk; rcases (show k = 0 ∨ k = 1 ∨ k = 2 ∨ k = 3 ∨ k = 4 ∨ k = 5 by omega) with rfl | rfl | rfl | rfl | rfl | rfl <;> assumption)) rfl ?_
              rw [show sp_count n a b l w = -1 from ((((((if_neg hw0).trans (if_neg hw1)).trans (if_neg hw2)).trans (if_neg hw3)).trans (if_neg hw4)).trans (if_neg hw5))] at hq
              refine w_blk 1 (pc' := 89) (ls' := [some (.ref 0), some (.int w)]) (sk' := [.int (-1)]) (st' := st) (fun _ h => h) ?_
              exact w_iret rfl rfl rfl hq
set_option maxRecDepth 20000 in
/-- count -/
theorem x_count_13 (d : Nat) (n : Nat → Nat) (c : Nat → Nat → Nat) (a b l : Nat) (w : Int32) (st : mSt) (hcw : st.1 0 1 = nI 13) (hX : X13 st n c) (ha : st.1 45 0 = nI a) (hb : st.1 49 0 = nI b) (hl : st.1 1 0 = nI l) : mMC mT (d + 1) 112 [.ref 0, .int w] st (some (.int (sp_count n a b l w))) st := by
  refine mI_X9_count (d := d + 0) (Nat.le_of_ble_eq_true rfl) (fun Q hq => ?_)
  show mW (mMC mT (d + 0)) (0, fun _ => 0) (mAtL P_X9_count) (some .int) Q 0 [some (.ref 0), some (.int w)] [] st
  have hcr : (st.1 0 1).toNatClampNeg = 13 := by rw [hcw]; rfl
  refine w_blk 1 (pc' := 1) (ls' := [some (.ref 0), some (.int w)]) (sk' := [.int w]) (st' := st) (fun _ h => h) ?_
  by_cases hw0 : w = 0
  · subst hw0
    refine w_tblIn (t := 40) rfl (by decide) (by decide) rfl rfl ?_
    refine w_blk 1 (pc' := 41) (ls' := [some (.ref 0), some (.int 0)]) (sk' := [.ref 0]) (st' := st) (fun _ h => h) ?_
    refine w_blk 1 (pc' := 44) (ls' := [some (.ref 0), some (.int 0)]) (sk' := [.ref (Int32.toNatClampNeg (st.1 0 1))]) (st' := st) (fun _ h => h) ?_
    rw [hcr]
    refine w_blk 1 (pc' := 47) (ls' := [some (.ref 0), some (.int 0)]) (sk' := [.int (st.1 13 0)]) (st' := st) (fun _ h => h) ?_
    rw [hX.1]
    rw [show sp_count n a b l 0 = (nI (n 0)) from if_pos rfl] at hq
    exact w_iret rfl rfl rfl hq
  · by_cases hw1 : w = 1
    · subst hw1
      refine w_tblIn (t := 48) rfl (by decide) (by decide) rfl rfl ?_
      refine w_blk 1 (pc' := 49) (ls' := [some (.ref 0), some (.int 1)]) (sk' := [.ref 0]) (st' := st) (fun _ h => h) ?_
      refine w_blk 1 (pc' := 52) (ls' := [some (.ref 0), some (.int 1)]) (sk' := [.ref (Int32.toNatClampNeg (st.1 0 1))]) (st' := st) (fun _ h => h) ?_
      rw [hcr]
      refine w_blk 1 (pc' := 55) (ls' := [some (.ref 0), some (.int 1)]) (sk' := [.int (st.1 13 1)]) (st' := st) (fun _ h => h) ?_
      rw [hX.2.1]
      rw [show sp_count n a b l 1 = (nI (n 1)) from (if_neg (by decide)).trans <| if_pos rfl] at hq
      exact w_iret rfl rfl rfl hq
    · by_cases hw2 : w = 2
      · subst hw2
        refine w_tblIn (t := 56) rfl (by decide) (by decide) rfl rfl ?_
        refine w_blk 1 (pc' := 57) (ls' := [some (.ref 0), some (.int 2)]) (sk' := [.ref 0]) (st' := st) (fun _ h => h) ?_
        refine w_blk 1 (pc' := 60) (ls' := [some (.ref 0), some (.int 2)]) (sk' := [.ref (Int32.toNatClampNeg (st.1 0 1))]) (st' := st) (fun _ h => h) ?_
        rw [hcr]
        refine w_blk 1 (pc' := 63) (ls' := [some (.ref 0), some (.int 2)]) (sk' := [.int (st.1 13 2)]) (st' := st) (fun _ h => h) ?_
        rw [hX.2.2.1]
        rw [show sp_count n a b l 2 = (nI (n 2)) from (if_neg (by decide)).trans <| (if_neg (by decide)).trans <| if_pos rfl] at hq
        exact w_iret rfl rfl rfl hq
      · by_cases hw3 : w = 3
        · subst hw3
          refine w_tblIn (t := 64) rfl (by decide) (by decide) rfl rfl ?_
          refine w_blk 3 (pc' := 71) (ls' := [some (.ref 0), some (.int 3)]) (sk' := [.int (st.1 45 0)]) (st' := st) (fun _ h => h) ?_
          rw [ha]
          rw [show sp_count n a b l 3 = (nI a) from (if_neg (by decide)).trans <| (if_neg (by decide)).trans <| (if_neg (by decide)).trans <| if_pos rfl] at hq
          exact w_iret rfl rfl rfl hq
        · by_cases hw4 : w = 4
          · subst hw4
            refine w_tblIn (t := 72) rfl (by decide) (by decide) rfl rfl ?_
            refine w_blk 3 (pc' := 79) (ls' := [some (.ref 0), some (.int 4)]) (sk' := [.int (st.1 49 0)]) (st' := st) (fun _ h => h) ?_
            rw [hb]
            rw [show sp_count n a b l 4 = (nI b) from (if_neg (by decide)).trans <| (if_neg (by decide)).trans <| (if_neg (by decide)).trans <| (if_neg (by decide)).trans <| if_pos rfl] at hq
            exact w_iret rfl rfl rfl hq
          · by_cases hw5 : w = 5
            · subst hw5
              refine w_tblIn (t := 80) rfl (by decide) (by decide) rfl rfl ?_
              refine w_blk 3 (pc' := 87) (ls' := [some (.ref 0), some (.int 5)]) (sk' := [.int (st.1 1 0)]) (st' := st) (fun _ h => h) ?_
              rw [hl]
              rw [show sp_count n a b l 5 = (nI l) from (if_neg (by decide)).trans <| (if_neg (by decide)).trans <| (if_neg (by decide)).trans <| (if_neg (by decide)).trans <| (if_neg (by decide)).trans <| if_pos rfl] at hq
              exact w_iret rfl rfl rfl hq
            · refine w_tblOut (t := 88) rfl (tbl_out 5 (by decide) (by intro k hk; rcases (show k = 0 ∨ k = 1 ∨ k = 2 ∨ k = 3 ∨ k = 4 ∨ k = 5 by omega) with rfl | rfl | rfl | rfl | rfl | rfl <;> assumption)) rfl ?_
              rw [show sp_count n a b l w = -1 from ((((((if_neg hw0).trans (if_neg hw1)).trans (if_neg hw2)).trans (if_neg hw3)).trans (if_neg hw4)).trans (if_neg hw5))] at hq
              refine w_blk 1 (pc' := 89) (ls' := [some (.ref 0), some (.int w)]) (sk' := [.int (-1)]) (st' := st) (fun _ h => h) ?_
              exact w_iret rfl rfl rfl hq
set_option maxRecDepth 20000 in
/-- reset() -/
theorem c_reset (d : Nat)  (st : mSt)  : ∃ (s : mSt), mMC mT (d + 2) 45 [.ref 21] st (none) s ∧ N21 s (fun _ => 0) (fun _ => 0) 0 ∧ Fr [21, 22, 23] st s := by
  suffices H : ∀ Q : Option Value → mSt → Prop, (∀ (s : mSt), (N21 s (fun _ => 0) (fun _ => 0) 0 ∧ Fr [21, 22, 23] st s) → Q (none) s) → mW (mMC mT (d + 1)) (0, fun _ => 0) (mAtL P_X5_reset) none Q 0 [some (.ref 21)] [] st by
    obtain ⟨_, _, ⟨s, rfl, rfl, hp⟩, hw⟩ := mW_ex (H (fun vv tt => ∃ (s : mSt),  vv = none ∧ s = tt ∧ N21 s (fun _ => 0) (fun _ => 0) 0 ∧ Fr [21, 22, 23] st s) (fun s hp => ⟨s, rfl, rfl, hp⟩))
    exact ⟨s, mI_X5_reset (d := d + 1) (Nat.le_of_ble_eq_true rfl) hw, hp⟩
  intro Q hq
  refine w_blk 24 (pc' := 40) (ls' := [some (.ref 21)]) (sk' := [.int 0, .ref 22]) (st' := ((mU (mU (mU (mU (mU (mU (mU st.1 21 0 0) 21 1 0) 21 2 0) 21 3 0) 21 4 0) 21 5 0) 21 6 0), st.2)) (fun _ h => h) ?_
  refine w_callS (As := [.ref 22, .int 0]) (rest := []) rfl rfl rfl (Nat.le_of_ble_eq_true rfl) (Nat.le_of_ble_eq_true rfl) (c_fill (d + 0) 22 6 0 ((mU (mU (mU (mU (mU (mU (mU st.1 21 0 0) 21 1 0) 21 2 0) 21 3 0) 21 4 0) 21 5 0) 21 6 0), st.2) (by decide) rfl) ?_
  refine w_blk 3 (pc' := 48) (ls' := [some (.ref 21)]) (sk' := [.int 0, .ref 23]) (st' := (filU (mU (mU (mU (mU (mU (mU (mU st.1 21 0 0) 21 1 0) 21 2 0) 21 3 0) 21 4 0) 21 5 0) 21 6 0) 22 6 0, st.2)) (fun _ h => h) ?_
  refine w_callS (As := [.ref 23, .int 0]) (rest := []) rfl rfl rfl (Nat.le_of_ble_eq_true rfl) (Nat.le_of_ble_eq_true rfl) (c_fill (d + 0) 23 8 0 (filU (mU (mU (mU (mU (mU (mU (mU st.1 21 0 0) 21 1 0) 21 2 0) 21 3 0) 21 4 0) 21 5 0) 21 6 0) 22 6 0, st.2) (by decide) rfl) ?_
  refine w_vret rfl rfl (hq _ ⟨⟨rfl, rfl, rfl, rfl, rfl, rfl, rfl, fun d hd => ?_, fun y hy => filU_at hy⟩, ?_⟩)
  · exact (show filU (filU (mU (mU (mU (mU (mU (mU (mU st.1 21 0 0) 21 1 0) 21 2 0) 21 3 0) 21 4 0) 21 5 0) 21 6 0) 22 6 0) 23 8 0 22 d = filU (mU (mU (mU (mU (mU (mU (mU st.1 21 0 0) 21 1 0) 21 2 0) 21 3 0) 21 4 0) 21 5 0) 21 6 0) 22 6 0 22 d from if_neg (fun h => absurd h.1 (by decide))).trans (filU_at hd)
  · exact Fr.trans (Fr.trans (Fr.trans (Fr.trans (Fr.trans (Fr.trans (Fr.trans (Fr.trans (Fr.trans (Fr.rf : Fr [21, 22, 23] st st) (Fr.mU (by decide))) (Fr.mU (by decide))) (Fr.mU (by decide))) (Fr.mU (by decide))) (Fr.mU (by decide))) (Fr.mU (by decide))) (Fr.mU (by decide))) (Fr.fil (st := ((mU (mU (mU (mU (mU (mU (mU st.1 21 0 0) 21 1 0) 21 2 0) 21 3 0) 21 4 0) 21 5 0) 21 6 0), st.2)) (by decide))) (Fr.fil (st := (filU (mU (mU (mU (mU (mU (mU (mU st.1 21 0 0) 21 1 0) 21 2 0) 21 3 0) 21 4 0) 21 5 0) 21 6 0) 22 6 0, st.2)) (by decide))
set_option maxRecDepth 20000 in
/-- anew -/
theorem x_anew (d : Nat) (v : Nat → Int32) (u : Nat → Nat) (yd : Nat) (st : mSt) (hN : N21 st v u yd) : ∃ (s : mSt), mMC mT (d + 3) 96 [.ref 0] st (some (.int (v 0))) s ∧ N21 s (fun _ => 0) (fun _ => 0) 0 ∧ Fr [21, 22, 23] st s := by
  suffices H : ∀ Q : Option Value → mSt → Prop, (∀ (s : mSt), (N21 s (fun _ => 0) (fun _ => 0) 0 ∧ Fr [21, 22, 23] st s) → Q (some (.int (v 0))) s) → mW (mMC mT (d + 2)) (0, fun _ => 0) (mAtL P_X9_anew) (some .int) Q 0 [some (.ref 0), none] [] st by
    obtain ⟨_, _, ⟨s, rfl, rfl, hp⟩, hw⟩ := mW_ex (H (fun vv tt => ∃ (s : mSt),  vv = some (.int (v 0)) ∧ s = tt ∧ N21 s (fun _ => 0) (fun _ => 0) 0 ∧ Fr [21, 22, 23] st s) (fun s hp => ⟨s, rfl, rfl, hp⟩))
    exact ⟨s, mI_X9_anew (d := d + 2) (Nat.le_of_ble_eq_true rfl) hw, hp⟩
  intro Q hq
  refine w_blk 3 (pc' := 7) (ls' := [some (.ref 0), none]) (sk' := [.int (st.1 21 0)]) (st' := st) (fun _ h => h) ?_
  rw [hN.1]
  refine w_blk 3 (pc' := 12) (ls' := [some (.ref 0), some (.int (v 0))]) (sk' := [.ref 21]) (st' := st) (fun _ h => h) ?_
  obtain ⟨s1, hc_2, hN_3, hf_4⟩ := c_reset (d + 0) st
  refine w_callV (As := [.ref 21]) (rest := []) rfl rfl rfl (Nat.le_of_ble_eq_true rfl) (Nat.le_of_ble_eq_true rfl) (by first | exact Or.inl ⟨rfl, rfl⟩ | exact Or.inr ⟨rfl, rfl⟩) hc_2 ?_
  have hf_5 := Fr.trans (Fr.rf : Fr [21, 22, 23] st st) (Fr.mono hf_4 (by decide))
  refine w_blk 1 (pc' := 16) (ls' := [some (.ref 0), some (.int (v 0))]) (sk' := [.int (v 0)]) (st' := s1) (fun _ h => h) ?_
  exact w_iret rfl rfl rfl (hq _ ⟨hN_3, hf_5⟩)
theorem Fr.cpy {S : List Nat} {st : mSt} {a p k : Nat} (h : p ∈ S) : Fr S st (cpyU st.1 a p k, st.2) := ⟨fun q hq => cpyU_ne (fun e => hq (e ▸ h)), fun _ _ => rfl⟩
set_option maxRecDepth 20000 in
/-- copyFrom -/
theorem c_copy_21_25 (d : Nat) (v : Nat → Int32) (u : Nat → Nat) (yd : Nat) (st : mSt) (hN : N21 st v u yd) : ∃ (s : mSt), mMC mT (d + 2) 46 [.ref 25, .ref 21] st (none) s ∧ N25 s v u yd ∧ Fr [25, 26, 27] st s := by
  suffices H : ∀ Q : Option Value → mSt → Prop, (∀ (s : mSt), (N25 s v u yd ∧ Fr [25, 26, 27] st s) → Q (none) s) → mW (mMC mT (d + 1)) (0, fun _ => 0) (mAtL P_X5_copyFrom) none Q 0 [some (.ref 25), some (.ref 21)] [] st by
    obtain ⟨_, _, ⟨s, rfl, rfl, hp⟩, hw⟩ := mW_ex (H (fun vv tt => ∃ (s : mSt),  vv = none ∧ s = tt ∧ N25 s v u yd ∧ Fr [25, 26, 27] st s) (fun s hp => ⟨s, rfl, rfl, hp⟩))
    exact ⟨s, mI_X5_copyFrom (d := d + 1) (Nat.le_of_ble_eq_true rfl) hw, hp⟩
  intro Q hq
  obtain ⟨e0, e1, e2, e3, e4, e5, e6, e7, e8⟩ := hN
  refine w_blk 32 (pc' := 64) (ls' := [some (.ref 25), some (.ref 21)]) (sk' := [.ref 26, .ref 22]) (st' := ((mU (mU (mU (mU (mU (mU (mU st.1 25 0 (st.1 21 0)) 25 1 (st.1 21 1)) 25 2 (st.1 21 2)) 25 3 (st.1 21 3)) 25 4 (st.1 21 4)) 25 5 (st.1 21 5)) 25 6 (st.1 21 6)), st.2)) (fun _ h => h) ?_
  refine w_callS (As := [.ref 22, .ref 26]) (rest := []) rfl rfl rfl (Nat.le_of_ble_eq_true rfl) (Nat.le_of_ble_eq_true rfl) (c_copy (d + 0) 22 26 6 ((mU (mU (mU (mU (mU (mU (mU st.1 25 0 (st.1 21 0)) 25 1 (st.1 21 1)) 25 2 (st.1 21 2)) 25 3 (st.1 21 3)) 25 4 (st.1 21 4)) 25 5 (st.1 21 5)) 25 6 (st.1 21 6)), st.2) (by decide) rfl rfl (by decide)) ?_
  refine w_blk 4 (pc' := 75) (ls' := [some (.ref 25), some (.ref 21)]) (sk' := [.ref 27, .ref 23]) (st' := (cpyU (mU (mU (mU (mU (mU (mU (mU st.1 25 0 (st.1 21 0)) 25 1 (st.1 21 1)) 25 2 (st.1 21 2)) 25 3 (st.1 21 3)) 25 4 (st.1 21 4)) 25 5 (st.1 21 5)) 25 6 (st.1 21 6)) 22 26 6, st.2)) (fun _ h => h) ?_
  refine w_callS (As := [.ref 23, .ref 27]) (rest := []) rfl rfl rfl (Nat.le_of_ble_eq_true rfl) (Nat.le_of_ble_eq_true rfl) (c_copy (d + 0) 23 27 8 (cpyU (mU (mU (mU (mU (mU (mU (mU st.1 25 0 (st.1 21 0)) 25 1 (st.1 21 1)) 25 2 (st.1 21 2)) 25 3 (st.1 21 3)) 25 4 (st.1 21 4)) 25 5 (st.1 21 5)) 25 6 (st.1 21 6)) 22 26 6, st.2) (by decide) rfl rfl (by decide)) ?_
  refine w_vret rfl rfl (hq _ ⟨⟨e0, e1, e2, e3, e4, e5, e6, fun d hd => ?_, fun y hy => ?_⟩, ?_⟩)
  · exact ((show cpyU (cpyU (mU (mU (mU (mU (mU (mU (mU st.1 25 0 (st.1 21 0)) 25 1 (st.1 21 1)) 25 2 (st.1 21 2)) 25 3 (st.1 21 3)) 25 4 (st.1 21 4)) 25 5 (st.1 21 5)) 25 6 (st.1 21 6)) 22 26 6) 23 27 8 26 d = cpyU (mU (mU (mU (mU (mU (mU (mU st.1 25 0 (st.1 21 0)) 25 1 (st.1 21 1)) 25 2 (st.1 21 2)) 25 3 (st.1 21 3)) 25 4 (st.1 21 4)) 25 5 (st.1 21 5)) 25 6 (st.1 21 6)) 22 26 6 26 d from if_neg (fun h => absurd h.1 (by decide))).trans (cpyU_at hd)).trans (e7 d hd)
  · exact ((cpyU_at hy).trans (show cpyU (mU (mU (mU (mU (mU (mU (mU st.1 25 0 (st.1 21 0)) 25 1 (st.1 21 1)) 25 2 (st.1 21 2)) 25 3 (st.1 21 3)) 25 4 (st.1 21 4)) 25 5 (st.1 21 5)) 25 6 (st.1 21 6)) 22 26 6 23 y = st.1 23 y from if_neg (fun h => absurd h.1 (by decide)))).trans (e8 y hy)
  · exact Fr.trans (Fr.trans (Fr.trans (Fr.trans (Fr.trans (Fr.trans (Fr.trans (Fr.trans (Fr.trans (Fr.rf : Fr [25, 26, 27] st st) (Fr.mU (by decide))) (Fr.mU (by decide))) (Fr.mU (by decide))) (Fr.mU (by decide))) (Fr.mU (by decide))) (Fr.mU (by decide))) (Fr.mU (by decide))) (Fr.cpy (st := ((mU (mU (mU (mU (mU (mU (mU st.1 25 0 (st.1 21 0)) 25 1 (st.1 21 1)) 25 2 (st.1 21 2)) 25 3 (st.1 21 3)) 25 4 (st.1 21 4)) 25 5 (st.1 21 5)) 25 6 (st.1 21 6)), st.2)) (by decide))) (Fr.cpy (st := (cpyU (mU (mU (mU (mU (mU (mU (mU st.1 25 0 (st.1 21 0)) 25 1 (st.1 21 1)) 25 2 (st.1 21 2)) 25 3 (st.1 21 3)) 25 4 (st.1 21 4)) 25 5 (st.1 21 5)) 25 6 (st.1 21 6)) 22 26 6, st.2)) (by decide))
set_option maxRecDepth 20000 in
/-- copyFrom -/
theorem c_copy_21_28 (d : Nat) (v : Nat → Int32) (u : Nat → Nat) (yd : Nat) (st : mSt) (hN : N21 st v u yd) : ∃ (s : mSt), mMC mT (d + 2) 46 [.ref 28, .ref 21] st (none) s ∧ N28 s v u yd ∧ Fr [28, 29, 30] st s := by
  suffices H : ∀ Q : Option Value → mSt → Prop, (∀ (s : mSt), (N28 s v u yd ∧ Fr [28, 29, 30] st s) → Q (none) s) → mW (mMC mT (d + 1)) (0, fun _ => 0) (mAtL P_X5_copyFrom) none Q 0 [some (.ref 28), some (.ref 21)] [] st by
    obtain ⟨_, _, ⟨s, rfl, rfl, hp⟩, hw⟩ := mW_ex (H (fun vv tt => ∃ (s : mSt),  vv = none ∧ s = tt ∧ N28 s v u yd ∧ Fr [28, 29, 30] st s) (fun s hp => ⟨s, rfl, rfl, hp⟩))
    exact ⟨s, mI_X5_copyFrom (d := d + 1) (Nat.le_of_ble_eq_true rfl) hw, hp⟩
  intro Q hq
  obtain ⟨e0, e1, e2, e3, e4, e5, e6, e7, e8⟩ := hN
  refine w_blk 32 (pc' := 64) (ls' := [some (.ref 28), some (.ref 21)]) (sk' := [.ref 29, .ref 22]) (st' := ((mU (mU (mU (mU (mU (mU (mU st.1 28 0 (st.1 21 0)) 28 1 (st.1 21 1)) 28 2 (st.1 21 2)) 28 3 (st.1 21 3)) 28 4 (st.1 21 4)) 28 5 (st.1 21 5)) 28 6 (st.1 21 6)), st.2)) (fun _ h => h) ?_
  refine w_callS (As := [.ref 22, .ref 29]) (rest := []) rfl rfl rfl (Nat.le_of_ble_eq_true rfl) (Nat.le_of_ble_eq_true rfl) (c_copy (d + 0) 22 29 6 ((mU (mU (mU (mU (mU (mU (mU st.1 28 0 (st.1 21 0)) 28 1 (st.1 21 1)) 28 2 (st.1 21 2)) 28 3 (st.1 21 3)) 28 4 (st.1 21 4)) 28 5 (st.1 21 5)) 28 6 (st.1 21 6)), st.2) (by decide) rfl rfl (by decide)) ?_
  refine w_blk 4 (pc' := 75) (ls' := [some (.ref 28), some (.ref 21)]) (sk' := [.ref 30, .ref 23]) (st' := (cpyU (mU (mU (mU (mU (mU (mU (mU st.1 28 0 (st.1 21 0)) 28 1 (st.1 21 1)) 28 2 (st.1 21 2)) 28 3 (st.1 21 3)) 28 4 (st.1 21 4)) 28 5 (st.1 21 5)) 28 6 (st.1 21 6)) 22 29 6, st.2)) (fun _ h => h) ?_
  refine w_callS (As := [.ref 23, .ref 30]) (rest := []) rfl rfl rfl (Nat.le_of_ble_eq_true rfl) (Nat.le_of_ble_eq_true rfl) (c_copy (d + 0) 23 30 8 (cpyU (mU (mU (mU (mU (mU (mU (mU st.1 28 0 (st.1 21 0)) 28 1 (st.1 21 1)) 28 2 (st.1 21 2)) 28 3 (st.1 21 3)) 28 4 (st.1 21 4)) 28 5 (st.1 21 5)) 28 6 (st.1 21 6)) 22 29 6, st.2) (by decide) rfl rfl (by decide)) ?_
  refine w_vret rfl rfl (hq _ ⟨⟨e0, e1, e2, e3, e4, e5, e6, fun d hd => ?_, fun y hy => ?_⟩, ?_⟩)
  · exact ((show cpyU (cpyU (mU (mU (mU (mU (mU (mU (mU st.1 28 0 (st.1 21 0)) 28 1 (st.1 21 1)) 28 2 (st.1 21 2)) 28 3 (st.1 21 3)) 28 4 (st.1 21 4)) 28 5 (st.1 21 5)) 28 6 (st.1 21 6)) 22 29 6) 23 30 8 29 d = cpyU (mU (mU (mU (mU (mU (mU (mU st.1 28 0 (st.1 21 0)) 28 1 (st.1 21 1)) 28 2 (st.1 21 2)) 28 3 (st.1 21 3)) 28 4 (st.1 21 4)) 28 5 (st.1 21 5)) 28 6 (st.1 21 6)) 22 29 6 29 d from if_neg (fun h => absurd h.1 (by decide))).trans (cpyU_at hd)).trans (e7 d hd)
  · exact ((cpyU_at hy).trans (show cpyU (mU (mU (mU (mU (mU (mU (mU st.1 28 0 (st.1 21 0)) 28 1 (st.1 21 1)) 28 2 (st.1 21 2)) 28 3 (st.1 21 3)) 28 4 (st.1 21 4)) 28 5 (st.1 21 5)) 28 6 (st.1 21 6)) 22 29 6 23 y = st.1 23 y from if_neg (fun h => absurd h.1 (by decide)))).trans (e8 y hy)
  · exact Fr.trans (Fr.trans (Fr.trans (Fr.trans (Fr.trans (Fr.trans (Fr.trans (Fr.trans (Fr.trans (Fr.rf : Fr [28, 29, 30] st st) (Fr.mU (by decide))) (Fr.mU (by decide))) (Fr.mU (by decide))) (Fr.mU (by decide))) (Fr.mU (by decide))) (Fr.mU (by decide))) (Fr.mU (by decide))) (Fr.cpy (st := ((mU (mU (mU (mU (mU (mU (mU st.1 28 0 (st.1 21 0)) 28 1 (st.1 21 1)) 28 2 (st.1 21 2)) 28 3 (st.1 21 3)) 28 4 (st.1 21 4)) 28 5 (st.1 21 5)) 28 6 (st.1 21 6)), st.2)) (by decide))) (Fr.cpy (st := (cpyU (mU (mU (mU (mU (mU (mU (mU st.1 28 0 (st.1 21 0)) 28 1 (st.1 21 1)) 28 2 (st.1 21 2)) 28 3 (st.1 21 3)) 28 4 (st.1 21 4)) 28 5 (st.1 21 5)) 28 6 (st.1 21 6)) 22 29 6, st.2)) (by decide))
set_option maxRecDepth 20000 in
/-- copyFrom -/
theorem c_copy_25_21 (d : Nat) (v : Nat → Int32) (u : Nat → Nat) (yd : Nat) (st : mSt) (hN : N25 st v u yd) : ∃ (s : mSt), mMC mT (d + 2) 46 [.ref 21, .ref 25] st (none) s ∧ N21 s v u yd ∧ Fr [21, 22, 23] st s := by
  suffices H : ∀ Q : Option Value → mSt → Prop, (∀ (s : mSt), (N21 s v u yd ∧ Fr [21, 22, 23] st s) → Q (none) s) → mW (mMC mT (d + 1)) (0, fun _ => 0) (mAtL P_X5_copyFrom) none Q 0 [some (.ref 21), some (.ref 25)] [] st by
    obtain ⟨_, _, ⟨s, rfl, rfl, hp⟩, hw⟩ := mW_ex (H (fun vv tt => ∃ (s : mSt),  vv = none ∧ s = tt ∧ N21 s v u yd ∧ Fr [21, 22, 23] st s) (fun s hp => ⟨s, rfl, rfl, hp⟩))
    exact ⟨s, mI_X5_copyFrom (d := d + 1) (Nat.le_of_ble_eq_true rfl) hw, hp⟩
  intro Q hq
  obtain ⟨e0, e1, e2, e3, e4, e5, e6, e7, e8⟩ := hN
  refine w_blk 32 (pc' := 64) (ls' := [some (.ref 21), some (.ref 25)]) (sk' := [.ref 22, .ref 26]) (st' := ((mU (mU (mU (mU (mU (mU (mU st.1 21 0 (st.1 25 0)) 21 1 (st.1 25 1)) 21 2 (st.1 25 2)) 21 3 (st.1 25 3)) 21 4 (st.1 25 4)) 21 5 (st.1 25 5)) 21 6 (st.1 25 6)), st.2)) (fun _ h => h) ?_
  refine w_callS (As := [.ref 26, .ref 22]) (rest := []) rfl rfl rfl (Nat.le_of_ble_eq_true rfl) (Nat.le_of_ble_eq_true rfl) (c_copy (d + 0) 26 22 6 ((mU (mU (mU (mU (mU (mU (mU st.1 21 0 (st.1 25 0)) 21 1 (st.1 25 1)) 21 2 (st.1 25 2)) 21 3 (st.1 25 3)) 21 4 (st.1 25 4)) 21 5 (st.1 25 5)) 21 6 (st.1 25 6)), st.2) (by decide) rfl rfl (by decide)) ?_
  refine w_blk 4 (pc' := 75) (ls' := [some (.ref 21), some (.ref 25)]) (sk' := [.ref 23, .ref 27]) (st' := (cpyU (mU (mU (mU (mU (mU (mU (mU st.1 21 0 (st.1 25 0)) 21 1 (st.1 25 1)) 21 2 (st.1 25 2)) 21 3 (st.1 25 3)) 21 4 (st.1 25 4)) 21 5 (st.1 25 5)) 21 6 (st.1 25 6)) 26 22 6, st.2)) (fun _ h => h) ?_
  refine w_callS (As := [.ref 27, .ref 23]) (rest := []) rfl rfl rfl (Nat.le_of_ble_eq_true rfl) (Nat.le_of_ble_eq_true rfl) (c_copy (d + 0) 27 23 8 (cpyU (mU (mU (mU (mU (mU (mU (mU st.1 21 0 (st.1 25 0)) 21 1 (st.1 25 1)) 21 2 (st.1 25 2)) 21 3 (st.1 25 3)) 21 4 (st.1 25 4)) 21 5 (st.1 25 5)) 21 6 (st.1 25 6)) 26 22 6, st.2) (by decide) rfl rfl (by decide)) ?_
  refine w_vret rfl rfl (hq _ ⟨⟨e0, e1, e2, e3, e4, e5, e6, fun d hd => ?_, fun y hy => ?_⟩, ?_⟩)
  · exact ((show cpyU (cpyU (mU (mU (mU (mU (mU (mU (mU st.1 21 0 (st.1 25 0)) 21 1 (st.1 25 1)) 21 2 (st.1 25 2)) 21 3 (st.1 25 3)) 21 4 (st.1 25 4)) 21 5 (st.1 25 5)) 21 6 (st.1 25 6)) 26 22 6) 27 23 8 22 d = cpyU (mU (mU (mU (mU (mU (mU (mU st.1 21 0 (st.1 25 0)) 21 1 (st.1 25 1)) 21 2 (st.1 25 2)) 21 3 (st.1 25 3)) 21 4 (st.1 25 4)) 21 5 (st.1 25 5)) 21 6 (st.1 25 6)) 26 22 6 22 d from if_neg (fun h => absurd h.1 (by decide))).trans (cpyU_at hd)).trans (e7 d hd)
  · exact ((cpyU_at hy).trans (show cpyU (mU (mU (mU (mU (mU (mU (mU st.1 21 0 (st.1 25 0)) 21 1 (st.1 25 1)) 21 2 (st.1 25 2)) 21 3 (st.1 25 3)) 21 4 (st.1 25 4)) 21 5 (st.1 25 5)) 21 6 (st.1 25 6)) 26 22 6 27 y = st.1 27 y from if_neg (fun h => absurd h.1 (by decide)))).trans (e8 y hy)
  · exact Fr.trans (Fr.trans (Fr.trans (Fr.trans (Fr.trans (Fr.trans (Fr.trans (Fr.trans (Fr.trans (Fr.rf : Fr [21, 22, 23] st st) (Fr.mU (by decide))) (Fr.mU (by decide))) (Fr.mU (by decide))) (Fr.mU (by decide))) (Fr.mU (by decide))) (Fr.mU (by decide))) (Fr.mU (by decide))) (Fr.cpy (st := ((mU (mU (mU (mU (mU (mU (mU st.1 21 0 (st.1 25 0)) 21 1 (st.1 25 1)) 21 2 (st.1 25 2)) 21 3 (st.1 25 3)) 21 4 (st.1 25 4)) 21 5 (st.1 25 5)) 21 6 (st.1 25 6)), st.2)) (by decide))) (Fr.cpy (st := (cpyU (mU (mU (mU (mU (mU (mU (mU st.1 21 0 (st.1 25 0)) 21 1 (st.1 25 1)) 21 2 (st.1 25 2)) 21 3 (st.1 25 3)) 21 4 (st.1 25 4)) 21 5 (st.1 25 5)) 21 6 (st.1 25 6)) 26 22 6, st.2)) (by decide))
set_option maxRecDepth 20000 in
/-- copyFrom -/
theorem c_copy_28_21 (d : Nat) (v : Nat → Int32) (u : Nat → Nat) (yd : Nat) (st : mSt) (hN : N28 st v u yd) : ∃ (s : mSt), mMC mT (d + 2) 46 [.ref 21, .ref 28] st (none) s ∧ N21 s v u yd ∧ Fr [21, 22, 23] st s := by
  suffices H : ∀ Q : Option Value → mSt → Prop, (∀ (s : mSt), (N21 s v u yd ∧ Fr [21, 22, 23] st s) → Q (none) s) → mW (mMC mT (d + 1)) (0, fun _ => 0) (mAtL P_X5_copyFrom) none Q 0 [some (.ref 21), some (.ref 28)] [] st by
    obtain ⟨_, _, ⟨s, rfl, rfl, hp⟩, hw⟩ := mW_ex (H (fun vv tt => ∃ (s : mSt),  vv = none ∧ s = tt ∧ N21 s v u yd ∧ Fr [21, 22, 23] st s) (fun s hp => ⟨s, rfl, rfl, hp⟩))
    exact ⟨s, mI_X5_copyFrom (d := d + 1) (Nat.le_of_ble_eq_true rfl) hw, hp⟩
  intro Q hq
  obtain ⟨e0, e1, e2, e3, e4, e5, e6, e7, e8⟩ := hN
  refine w_blk 32 (pc' := 64) (ls' := [some (.ref 21), some (.ref 28)]) (sk' := [.ref 22, .ref 29]) (st' := ((mU (mU (mU (mU (mU (mU (mU st.1 21 0 (st.1 28 0)) 21 1 (st.1 28 1)) 21 2 (st.1 28 2)) 21 3 (st.1 28 3)) 21 4 (st.1 28 4)) 21 5 (st.1 28 5)) 21 6 (st.1 28 6)), st.2)) (fun _ h => h) ?_
  refine w_callS (As := [.ref 29, .ref 22]) (rest := []) rfl rfl rfl (Nat.le_of_ble_eq_true rfl) (Nat.le_of_ble_eq_true rfl) (c_copy (d + 0) 29 22 6 ((mU (mU (mU (mU (mU (mU (mU st.1 21 0 (st.1 28 0)) 21 1 (st.1 28 1)) 21 2 (st.1 28 2)) 21 3 (st.1 28 3)) 21 4 (st.1 28 4)) 21 5 (st.1 28 5)) 21 6 (st.1 28 6)), st.2) (by decide) rfl rfl (by decide)) ?_
  refine w_blk 4 (pc' := 75) (ls' := [some (.ref 21), some (.ref 28)]) (sk' := [.ref 23, .ref 30]) (st' := (cpyU (mU (mU (mU (mU (mU (mU (mU st.1 21 0 (st.1 28 0)) 21 1 (st.1 28 1)) 21 2 (st.1 28 2)) 21 3 (st.1 28 3)) 21 4 (st.1 28 4)) 21 5 (st.1 28 5)) 21 6 (st.1 28 6)) 29 22 6, st.2)) (fun _ h => h) ?_
  refine w_callS (As := [.ref 30, .ref 23]) (rest := []) rfl rfl rfl (Nat.le_of_ble_eq_true rfl) (Nat.le_of_ble_eq_true rfl) (c_copy (d + 0) 30 23 8 (cpyU (mU (mU (mU (mU (mU (mU (mU st.1 21 0 (st.1 28 0)) 21 1 (st.1 28 1)) 21 2 (st.1 28 2)) 21 3 (st.1 28 3)) 21 4 (st.1 28 4)) 21 5 (st.1 28 5)) 21 6 (st.1 28 6)) 29 22 6, st.2) (by decide) rfl rfl (by decide)) ?_
  refine w_vret rfl rfl (hq _ ⟨⟨e0, e1, e2, e3, e4, e5, e6, fun d hd => ?_, fun y hy => ?_⟩, ?_⟩)
  · exact ((show cpyU (cpyU (mU (mU (mU (mU (mU (mU (mU st.1 21 0 (st.1 28 0)) 21 1 (st.1 28 1)) 21 2 (st.1 28 2)) 21 3 (st.1 28 3)) 21 4 (st.1 28 4)) 21 5 (st.1 28 5)) 21 6 (st.1 28 6)) 29 22 6) 30 23 8 22 d = cpyU (mU (mU (mU (mU (mU (mU (mU st.1 21 0 (st.1 28 0)) 21 1 (st.1 28 1)) 21 2 (st.1 28 2)) 21 3 (st.1 28 3)) 21 4 (st.1 28 4)) 21 5 (st.1 28 5)) 21 6 (st.1 28 6)) 29 22 6 22 d from if_neg (fun h => absurd h.1 (by decide))).trans (cpyU_at hd)).trans (e7 d hd)
  · exact ((cpyU_at hy).trans (show cpyU (mU (mU (mU (mU (mU (mU (mU st.1 21 0 (st.1 28 0)) 21 1 (st.1 28 1)) 21 2 (st.1 28 2)) 21 3 (st.1 28 3)) 21 4 (st.1 28 4)) 21 5 (st.1 28 5)) 21 6 (st.1 28 6)) 29 22 6 30 y = st.1 30 y from if_neg (fun h => absurd h.1 (by decide)))).trans (e8 y hy)
  · exact Fr.trans (Fr.trans (Fr.trans (Fr.trans (Fr.trans (Fr.trans (Fr.trans (Fr.trans (Fr.trans (Fr.rf : Fr [21, 22, 23] st st) (Fr.mU (by decide))) (Fr.mU (by decide))) (Fr.mU (by decide))) (Fr.mU (by decide))) (Fr.mU (by decide))) (Fr.mU (by decide))) (Fr.mU (by decide))) (Fr.cpy (st := ((mU (mU (mU (mU (mU (mU (mU st.1 21 0 (st.1 28 0)) 21 1 (st.1 28 1)) 21 2 (st.1 28 2)) 21 3 (st.1 28 3)) 21 4 (st.1 28 4)) 21 5 (st.1 28 5)) 21 6 (st.1 28 6)), st.2)) (by decide))) (Fr.cpy (st := (cpyU (mU (mU (mU (mU (mU (mU (mU st.1 21 0 (st.1 28 0)) 21 1 (st.1 28 1)) 21 2 (st.1 28 2)) 21 3 (st.1 28 3)) 21 4 (st.1 28 4)) 21 5 (st.1 28 5)) 21 6 (st.1 28 6)) 29 22 6, st.2)) (by decide))
end
section
/-! IMAGES, MARKS, HOLES, TOLD ONES: the class SpadeRings -/
def Fk (p : Nat) (K : List Nat) (st st1 : mSt) : Prop := ∀ j, j ∉ K → st1.1 p j = st.1 p j
theorem Fk.rf {p : Nat} {K : List Nat} {st : mSt} : Fk p K st st := fun _ _ => rfl
theorem Fk.trans {p : Nat} {K : List Nat} {a b c : mSt} (h1 : Fk p K a b) (h2 : Fk p K b c) : Fk p K a c := fun j hj => (h2 j hj).trans (h1 j hj)
theorem Fk.fr {p : Nat} {K S : List Nat} {a b : mSt} (h : Fr S a b) (hp : p ∉ S) : Fk p K a b := fun j _ => by rw [h.1 p hp]
theorem Fk.wr {p k : Nat} {K : List Nat} {x : Int32} {st : mSt} (h : k ∈ K) : Fk p K st (mU st.1 p k x, st.2) := fun j hj => mU_row (fun e => hj (e ▸ h))
theorem Fk.wn {p q k : Nat} {K : List Nat} {x : Int32} {st : mSt} (h : q ≠ p) : Fk p K st (mU st.1 q k x, st.2) := fun j _ => by
  show mU st.1 q k x p j = _
  rw [mU_ne (fun e => h e.symm)]
theorem nI_within {x : Int32} {a b : Nat} (h : nI a ≤ x ∧ x ≤ nI b) (ha : a < 2 ^ 31) (hb : b < 2 ^ 31) : ∃ k : Nat, a ≤ k ∧ k ≤ b ∧ x = nI k := by
  obtain ⟨h1, h2⟩ := h
  have h0 : ¬ x < 0 := by
    have := nI_pos' ha
    simp only [Int32.le_iff_toInt_le, Int32.lt_iff_toInt_lt] at *
    omega
  obtain ⟨j, hj, rfl⟩ := nI_of h0
  exact ⟨j, (nI_leI ha hj).mp h1, (nI_leI hj hb).mp h2, rfl⟩
theorem nI_withinI {k a b : Nat} (ha : a ≤ k) (hb : k ≤ b) (h : b < 2 ^ 31) : nI a ≤ nI k ∧ nI k ≤ nI b := ⟨nI_le ha (by omega), nI_le hb h⟩
def XH (st : mSt) (a : Nat) (T C U : Nat → Nat) : Prop := st.1 45 0 = nI a ∧ ∀ k, k < a → st.1 46 k = nI (T k) ∧ st.1 47 k = nI (C k) ∧ st.1 48 k = nI (U k)
theorem XH_add {st : mSt} {a : Nat} {T C U : Nat → Nat} (h : XH st a T C U) (t c u : Nat) : XH (mU (mU (mU (mU st.1 46 a (nI t)) 47 a (nI c)) 48 a (nI u)) 45 0 (nI (a + 1)), st.2) (a + 1) (updN T a t) (updN C a c) (updN U a u) := by
  refine ⟨rfl, fun k hk => ?_⟩
  show mU st.1 46 a (nI t) 46 k = _ ∧ mU st.1 47 a (nI c) 47 k = _ ∧ mU st.1 48 a (nI u) 48 k = _
  by_cases e : k = a
  · subst e
    rw [updN_s, updN_s, updN_s]
    exact ⟨mU_at, mU_at, mU_at⟩
  · rw [updN_n e, updN_n e, updN_n e, mU_row e, mU_row e, mU_row e]
    exact h.2 k (by omega)
theorem XH_no {st : mSt} {a : Nat} {T C U : Nat → Nat} (h : XH st a T C U) (t c u : Nat) : XH st a (updN T a t) (updN C a c) (updN U a u) := by
  refine ⟨h.1, fun k hk => ?_⟩
  rw [updN_n (by omega), updN_n (by omega), updN_n (by omega)]
  exact h.2 k hk
theorem XH_fr {S : List Nat} {st st1 : mSt} {a : Nat} {T C U : Nat → Nat} (hf : Fr S st st1) (hS : ∀ p, p ∈ [46, 47, 48] → p ∉ S) (h0 : st1.1 45 0 = st.1 45 0) (h : XH st a T C U) : XH st1 a T C U := by
  unfold XH at h ⊢
  rw [h0, hf.1 46 (hS 46 (by decide)), hf.1 47 (hS 47 (by decide)), hf.1 48 (hS 48 (by decide))]
  exact h
def XT (st : mSt) (a : Nat) (T C U : Nat → Nat) : Prop := st.1 49 0 = nI a ∧ ∀ k, k < a → st.1 50 k = nI (T k) ∧ st.1 51 k = nI (C k) ∧ st.1 52 k = nI (U k)
theorem XT_add {st : mSt} {a : Nat} {T C U : Nat → Nat} (h : XT st a T C U) (t c u : Nat) : XT (mU (mU (mU (mU st.1 50 a (nI t)) 51 a (nI c)) 52 a (nI u)) 49 0 (nI (a + 1)), st.2) (a + 1) (updN T a t) (updN C a c) (updN U a u) := by
  refine ⟨rfl, fun k hk => ?_⟩
  show mU st.1 50 a (nI t) 50 k = _ ∧ mU st.1 51 a (nI c) 51 k = _ ∧ mU st.1 52 a (nI u) 52 k = _
  by_cases e : k = a
  · subst e
    rw [updN_s, updN_s, updN_s]
    exact ⟨mU_at, mU_at, mU_at⟩
  · rw [updN_n e, updN_n e, updN_n e, mU_row e, mU_row e, mU_row e]
    exact h.2 k (by omega)
theorem XT_no {st : mSt} {a : Nat} {T C U : Nat → Nat} (h : XT st a T C U) (t c u : Nat) : XT st a (updN T a t) (updN C a c) (updN U a u) := by
  refine ⟨h.1, fun k hk => ?_⟩
  rw [updN_n (by omega), updN_n (by omega), updN_n (by omega)]
  exact h.2 k hk
theorem XT_fr {S : List Nat} {st st1 : mSt} {a : Nat} {T C U : Nat → Nat} (hf : Fr S st st1) (hS : ∀ p, p ∈ [50, 51, 52] → p ∉ S) (h0 : st1.1 49 0 = st.1 49 0) (h : XT st a T C U) : XT st1 a T C U := by
  unfold XT at h ⊢
  rw [h0, hf.1 50 (hS 50 (by decide)), hf.1 51 (hS 51 (by decide)), hf.1 52 (hS 52 (by decide))]
  exact h
def MH (st : mSt) (a : Nat) (T C U : Nat → Nat) : Prop := st.1 53 33 = nI a ∧ ∀ k, k < a → st.1 79 k = nI (T k) ∧ st.1 80 k = nI (C k) ∧ st.1 81 k = nI (U k)
theorem MH_add {st : mSt} {a : Nat} {T C U : Nat → Nat} (h : MH st a T C U) (t c u : Nat) : MH (mU (mU (mU (mU st.1 79 a (nI t)) 80 a (nI c)) 81 a (nI u)) 53 33 (nI (a + 1)), st.2) (a + 1) (updN T a t) (updN C a c) (updN U a u) := by
  refine ⟨rfl, fun k hk => ?_⟩
  show mU st.1 79 a (nI t) 79 k = _ ∧ mU st.1 80 a (nI c) 80 k = _ ∧ mU st.1 81 a (nI u) 81 k = _
  by_cases e : k = a
  · subst e
    rw [updN_s, updN_s, updN_s]
    exact ⟨mU_at, mU_at, mU_at⟩
  · rw [updN_n e, updN_n e, updN_n e, mU_row e, mU_row e, mU_row e]
    exact h.2 k (by omega)
theorem MH_no {st : mSt} {a : Nat} {T C U : Nat → Nat} (h : MH st a T C U) (t c u : Nat) : MH st a (updN T a t) (updN C a c) (updN U a u) := by
  refine ⟨h.1, fun k hk => ?_⟩
  rw [updN_n (by omega), updN_n (by omega), updN_n (by omega)]
  exact h.2 k hk
theorem MH_fr {S : List Nat} {st st1 : mSt} {a : Nat} {T C U : Nat → Nat} (hf : Fr S st st1) (hS : ∀ p, p ∈ [79, 80, 81] → p ∉ S) (h0 : st1.1 53 33 = st.1 53 33) (h : MH st a T C U) : MH st1 a T C U := by
  unfold MH at h ⊢
  rw [h0, hf.1 79 (hS 79 (by decide)), hf.1 80 (hS 80 (by decide)), hf.1 81 (hS 81 (by decide))]
  exact h
def MT (st : mSt) (a : Nat) (T C U : Nat → Nat) : Prop := st.1 53 38 = nI a ∧ ∀ k, k < a → st.1 83 k = nI (T k) ∧ st.1 84 k = nI (C k) ∧ st.1 85 k = nI (U k)
theorem MT_add {st : mSt} {a : Nat} {T C U : Nat → Nat} (h : MT st a T C U) (t c u : Nat) : MT (mU (mU (mU (mU st.1 83 a (nI t)) 84 a (nI c)) 85 a (nI u)) 53 38 (nI (a + 1)), st.2) (a + 1) (updN T a t) (updN C a c) (updN U a u) := by
  refine ⟨rfl, fun k hk => ?_⟩
  show mU st.1 83 a (nI t) 83 k = _ ∧ mU st.1 84 a (nI c) 84 k = _ ∧ mU st.1 85 a (nI u) 85 k = _
  by_cases e : k = a
  · subst e
    rw [updN_s, updN_s, updN_s]
    exact ⟨mU_at, mU_at, mU_at⟩
  · rw [updN_n e, updN_n e, updN_n e, mU_row e, mU_row e, mU_row e]
    exact h.2 k (by omega)
theorem MT_no {st : mSt} {a : Nat} {T C U : Nat → Nat} (h : MT st a T C U) (t c u : Nat) : MT st a (updN T a t) (updN C a c) (updN U a u) := by
  refine ⟨h.1, fun k hk => ?_⟩
  rw [updN_n (by omega), updN_n (by omega), updN_n (by omega)]
  exact h.2 k hk
theorem MT_fr {S : List Nat} {st st1 : mSt} {a : Nat} {T C U : Nat → Nat} (hf : Fr S st st1) (hS : ∀ p, p ∈ [83, 84, 85] → p ∉ S) (h0 : st1.1 53 38 = st.1 53 38) (h : MT st a T C U) : MT st1 a T C U := by
  unfold MT at h ⊢
  rw [h0, hf.1 83 (hS 83 (by decide)), hf.1 84 (hS 84 (by decide)), hf.1 85 (hS 85 (by decide))]
  exact h
abbrev okH (t c u : Int32) : Prop := (0 ≤ t ∧ t ≤ 99) ∧ (1 ≤ c ∧ c ≤ 99) ∧ (t ≤ u ∧ u ≤ 200)
def sp_hole (a : Nat) (t c u : Int32) : Int32 := if okH t c u then (if a < 8 then nI (a + 1) else -3) else -1
def hl_a (a : Nat) (t c u : Int32) : Nat := if okH t c u ∧ a < 8 then a + 1 else a
abbrev okT (n : Nat → Nat) (r x y : Int32) : Prop := (0 ≤ r ∧ r ≤ 99) ∧ ok0 n x ∧ ok1 n y
def sp_tell (n : Nat → Nat) (a : Nat) (r x y : Int32) : Int32 := if okT n r x y then (if a < 30 then nI (a + 1) else -3) else -1
def tl_a (n : Nat → Nat) (a : Nat) (r x y : Int32) : Nat := if okT n r x y ∧ a < 30 then a + 1 else a
def ad_a (a N : Nat) : Nat := if a < N then a + 1 else a
set_option maxRecDepth 20000 in
/-- add -/
theorem c_holeAdd (d : Nat) (a : Nat) (T C U : Nat → Nat) (t c u : Nat) (st : mSt) (hP : XH st a T C U) (ha : a ≤ 8) : ∃ (s : mSt), mMC mT (d + 2) 39 [.ref 45, .int (nI t), .int (nI c), .int (nI u)] st (some (.int (pI (a < 8)))) s ∧ XH s (ad_a a 8) (updN T a t) (updN C a c) (updN U a u) ∧ Fr [45, 46, 47, 48] st s := by
  suffices H : ∀ Q : Option Value → mSt → Prop, (∀ (s : mSt), (XH s (ad_a a 8) (updN T a t) (updN C a c) (updN U a u) ∧ Fr [45, 46, 47, 48] st s) → Q (some (.int (pI (a < 8)))) s) → mW (mMC mT (d + 1)) (0, fun _ => 0) (mAtL P_X3_add) (some .boolean) Q 0 [some (.ref 45), some (.int (nI t)), some (.int (nI c)), some (.int (nI u))] [] st by
    obtain ⟨_, _, ⟨s, rfl, rfl, hp⟩, hw⟩ := mW_ex (H (fun vv tt => ∃ (s : mSt),  vv = some (.int (pI (a < 8))) ∧ s = tt ∧ XH s (ad_a a 8) (updN T a t) (updN C a c) (updN U a u) ∧ Fr [45, 46, 47, 48] st s) (fun s hp => ⟨s, rfl, rfl, hp⟩))
    exact ⟨s, mI_X3_add (d := d + 1) (Nat.le_of_ble_eq_true rfl) hw, hp⟩
  intro Q hq
  refine w_blk 2 (pc' := 4) (ls' := [some (.ref 45), some (.int (nI t)), some (.int (nI c)), some (.int (nI u))]) (sk' := [.int (st.1 45 0)]) (st' := st) (fun _ h => h) ?_
  rw [hP.1]
  refine w_blk 1 (pc' := 6) (ls' := [some (.ref 45), some (.int (nI t)), some (.int (nI c)), some (.int (nI u))]) (sk' := [.int 8, .int (nI a)]) (st' := st) (fun _ h => h) ?_
  refine w_cmp_lt rfl (fun h1 => ?_) (fun h1 => ?_)
  · replace h1 : a < 8 := (nI_ltI (a := a) (b := 8) (by omega) (by omega)).mp h1
    refine w_blk 4 (pc' := 19) (ls' := [some (.ref 45), some (.int (nI t)), some (.int (nI c)), some (.int (nI u))]) (sk' := [.int (st.1 45 0), .ref 46]) (st' := st) (fun _ h => h) ?_
    rw [hP.1]
    refine w_blk 1 (pc' := 20) (ls' := [some (.ref 45), some (.int (nI t)), some (.int (nI c)), some (.int (nI u))]) (sk' := [.int (nI t), .int (nI a), .ref 46]) (st' := st) (fun _ h => h) ?_
    refine w_callS (As := [.ref 46, .int (nI a), .int (nI t)]) (rest := []) rfl rfl rfl (Nat.le_of_ble_eq_true rfl) (Nat.le_of_ble_eq_true rfl) (c_putK (d + 0) 46 8 a (nI t) st (by omega) (by decide) rfl) ?_
    refine w_blk 4 (pc' := 31) (ls' := [some (.ref 45), some (.int (nI t)), some (.int (nI c)), some (.int (nI u))]) (sk' := [.int (st.1 45 0), .ref 47]) (st' := ((mU st.1 46 a (nI t)), st.2)) (fun _ h => h) ?_
    rw [hP.1]
    refine w_blk 1 (pc' := 32) (ls' := [some (.ref 45), some (.int (nI t)), some (.int (nI c)), some (.int (nI u))]) (sk' := [.int (nI c), .int (nI a), .ref 47]) (st' := ((mU st.1 46 a (nI t)), st.2)) (fun _ h => h) ?_
    refine w_callS (As := [.ref 47, .int (nI a), .int (nI c)]) (rest := []) rfl rfl rfl (Nat.le_of_ble_eq_true rfl) (Nat.le_of_ble_eq_true rfl) (c_putK (d + 0) 47 8 a (nI c) ((mU st.1 46 a (nI t)), st.2) (by omega) (by decide) rfl) ?_
    refine w_blk 4 (pc' := 43) (ls' := [some (.ref 45), some (.int (nI t)), some (.int (nI c)), some (.int (nI u))]) (sk' := [.int (st.1 45 0), .ref 48]) (st' := ((mU (mU st.1 46 a (nI t)) 47 a (nI c)), st.2)) (fun _ h => h) ?_
    rw [hP.1]
    refine w_blk 1 (pc' := 44) (ls' := [some (.ref 45), some (.int (nI t)), some (.int (nI c)), some (.int (nI u))]) (sk' := [.int (nI u), .int (nI a), .ref 48]) (st' := ((mU (mU st.1 46 a (nI t)) 47 a (nI c)), st.2)) (fun _ h => h) ?_
    refine w_callS (As := [.ref 48, .int (nI a), .int (nI u)]) (rest := []) rfl rfl rfl (Nat.le_of_ble_eq_true rfl) (Nat.le_of_ble_eq_true rfl) (c_putK (d + 0) 48 8 a (nI u) ((mU (mU st.1 46 a (nI t)) 47 a (nI c)), st.2) (by omega) (by decide) rfl) ?_
    refine w_blk 3 (pc' := 52) (ls' := [some (.ref 45), some (.int (nI t)), some (.int (nI c)), some (.int (nI u))]) (sk' := [.int (st.1 45 0), .ref 45]) (st' := ((mU (mU (mU st.1 46 a (nI t)) 47 a (nI c)) 48 a (nI u)), st.2)) (fun _ h => h) ?_
    rw [hP.1]
    refine w_blk 2 (pc' := 54) (ls' := [some (.ref 45), some (.int (nI t)), some (.int (nI c)), some (.int (nI u))]) (sk' := [.int ((nI a) + 1), .ref 45]) (st' := ((mU (mU (mU st.1 46 a (nI t)) 47 a (nI c)) 48 a (nI u)), st.2)) (fun _ h => h) ?_
    rw [show ((nI a) + 1) = nI (a + 1) from nI_add a 1]
    refine w_blk 2 (pc' := 58) (ls' := [some (.ref 45), some (.int (nI t)), some (.int (nI c)), some (.int (nI u))]) (sk' := [.int 1]) (st' := ((mU (mU (mU (mU st.1 46 a (nI t)) 47 a (nI c)) 48 a (nI u)) 45 0 (nI (a + 1))), st.2)) (fun _ h => h) ?_
    exact w_iret rfl rfl rfl (by have hh := hq ((mU (mU (mU (mU st.1 46 a (nI t)) 47 a (nI c)) 48 a (nI u)) 45 0 (nI (a + 1))), st.2); rw [pI_t (show a < 8 by omega), show ad_a a 8 = a + 1 from if_pos (show a < 8 by omega)] at hh; exact hh ⟨XH_add hP t c u, (Fr.trans (Fr.trans (Fr.trans (Fr.trans (Fr.rf : Fr [45, 46, 47, 48] st st) (Fr.mU (by decide))) (Fr.mU (by decide))) (Fr.mU (by decide))) (Fr.mU (by decide)))⟩)
  · replace h1 : ¬ (a < 8) := fun hh => h1 ((nI_ltI (a := a) (b := 8) (by omega) (by omega)).mpr hh)
    refine w_blk 1 (pc' := 10) (ls' := [some (.ref 45), some (.int (nI t)), some (.int (nI c)), some (.int (nI u))]) (sk' := [.int 0]) (st' := st) (fun _ h => h) ?_
    exact w_iret rfl rfl rfl (by have hh := hq st; rw [pI_f (show ¬ a < 8 by omega), show ad_a a 8 = a from if_neg (show ¬ a < 8 by omega)] at hh; exact hh ⟨XH_no hP t c u, Fr.rf⟩)
set_option maxRecDepth 20000 in
/-- add -/
theorem c_toldAdd (d : Nat) (a : Nat) (T C U : Nat → Nat) (t c u : Nat) (st : mSt) (hP : XT st a T C U) (ha : a ≤ 30) : ∃ (s : mSt), mMC mT (d + 2) 80 [.ref 49, .int (nI t), .int (nI c), .int (nI u)] st (some (.int (pI (a < 30)))) s ∧ XT s (ad_a a 30) (updN T a t) (updN C a c) (updN U a u) ∧ Fr [49, 50, 51, 52] st s := by
  suffices H : ∀ Q : Option Value → mSt → Prop, (∀ (s : mSt), (XT s (ad_a a 30) (updN T a t) (updN C a c) (updN U a u) ∧ Fr [49, 50, 51, 52] st s) → Q (some (.int (pI (a < 30)))) s) → mW (mMC mT (d + 1)) (0, fun _ => 0) (mAtL P_X8_add) (some .boolean) Q 0 [some (.ref 49), some (.int (nI t)), some (.int (nI c)), some (.int (nI u))] [] st by
    obtain ⟨_, _, ⟨s, rfl, rfl, hp⟩, hw⟩ := mW_ex (H (fun vv tt => ∃ (s : mSt),  vv = some (.int (pI (a < 30))) ∧ s = tt ∧ XT s (ad_a a 30) (updN T a t) (updN C a c) (updN U a u) ∧ Fr [49, 50, 51, 52] st s) (fun s hp => ⟨s, rfl, rfl, hp⟩))
    exact ⟨s, mI_X8_add (d := d + 1) (Nat.le_of_ble_eq_true rfl) hw, hp⟩
  intro Q hq
  refine w_blk 2 (pc' := 4) (ls' := [some (.ref 49), some (.int (nI t)), some (.int (nI c)), some (.int (nI u))]) (sk' := [.int (st.1 49 0)]) (st' := st) (fun _ h => h) ?_
  rw [hP.1]
  refine w_blk 1 (pc' := 6) (ls' := [some (.ref 49), some (.int (nI t)), some (.int (nI c)), some (.int (nI u))]) (sk' := [.int 30, .int (nI a)]) (st' := st) (fun _ h => h) ?_
  refine w_cmp_lt rfl (fun h1 => ?_) (fun h1 => ?_)
  · replace h1 : a < 30 := (nI_ltI (a := a) (b := 30) (by omega) (by omega)).mp h1
    refine w_blk 4 (pc' := 19) (ls' := [some (.ref 49), some (.int (nI t)), some (.int (nI c)), some (.int (nI u))]) (sk' := [.int (st.1 49 0), .ref 50]) (st' := st) (fun _ h => h) ?_
    rw [hP.1]
    refine w_blk 1 (pc' := 20) (ls' := [some (.ref 49), some (.int (nI t)), some (.int (nI c)), some (.int (nI u))]) (sk' := [.int (nI t), .int (nI a), .ref 50]) (st' := st) (fun _ h => h) ?_
    refine w_callS (As := [.ref 50, .int (nI a), .int (nI t)]) (rest := []) rfl rfl rfl (Nat.le_of_ble_eq_true rfl) (Nat.le_of_ble_eq_true rfl) (c_putK (d + 0) 50 30 a (nI t) st (by omega) (by decide) rfl) ?_
    refine w_blk 4 (pc' := 31) (ls' := [some (.ref 49), some (.int (nI t)), some (.int (nI c)), some (.int (nI u))]) (sk' := [.int (st.1 49 0), .ref 51]) (st' := ((mU st.1 50 a (nI t)), st.2)) (fun _ h => h) ?_
    rw [hP.1]
    refine w_blk 1 (pc' := 32) (ls' := [some (.ref 49), some (.int (nI t)), some (.int (nI c)), some (.int (nI u))]) (sk' := [.int (nI c), .int (nI a), .ref 51]) (st' := ((mU st.1 50 a (nI t)), st.2)) (fun _ h => h) ?_
    refine w_callS (As := [.ref 51, .int (nI a), .int (nI c)]) (rest := []) rfl rfl rfl (Nat.le_of_ble_eq_true rfl) (Nat.le_of_ble_eq_true rfl) (c_putK (d + 0) 51 30 a (nI c) ((mU st.1 50 a (nI t)), st.2) (by omega) (by decide) rfl) ?_
    refine w_blk 4 (pc' := 43) (ls' := [some (.ref 49), some (.int (nI t)), some (.int (nI c)), some (.int (nI u))]) (sk' := [.int (st.1 49 0), .ref 52]) (st' := ((mU (mU st.1 50 a (nI t)) 51 a (nI c)), st.2)) (fun _ h => h) ?_
    rw [hP.1]
    refine w_blk 1 (pc' := 44) (ls' := [some (.ref 49), some (.int (nI t)), some (.int (nI c)), some (.int (nI u))]) (sk' := [.int (nI u), .int (nI a), .ref 52]) (st' := ((mU (mU st.1 50 a (nI t)) 51 a (nI c)), st.2)) (fun _ h => h) ?_
    refine w_callS (As := [.ref 52, .int (nI a), .int (nI u)]) (rest := []) rfl rfl rfl (Nat.le_of_ble_eq_true rfl) (Nat.le_of_ble_eq_true rfl) (c_putK (d + 0) 52 30 a (nI u) ((mU (mU st.1 50 a (nI t)) 51 a (nI c)), st.2) (by omega) (by decide) rfl) ?_
    refine w_blk 3 (pc' := 52) (ls' := [some (.ref 49), some (.int (nI t)), some (.int (nI c)), some (.int (nI u))]) (sk' := [.int (st.1 49 0), .ref 49]) (st' := ((mU (mU (mU st.1 50 a (nI t)) 51 a (nI c)) 52 a (nI u)), st.2)) (fun _ h => h) ?_
    rw [hP.1]
    refine w_blk 2 (pc' := 54) (ls' := [some (.ref 49), some (.int (nI t)), some (.int (nI c)), some (.int (nI u))]) (sk' := [.int ((nI a) + 1), .ref 49]) (st' := ((mU (mU (mU st.1 50 a (nI t)) 51 a (nI c)) 52 a (nI u)), st.2)) (fun _ h => h) ?_
    rw [show ((nI a) + 1) = nI (a + 1) from nI_add a 1]
    refine w_blk 2 (pc' := 58) (ls' := [some (.ref 49), some (.int (nI t)), some (.int (nI c)), some (.int (nI u))]) (sk' := [.int 1]) (st' := ((mU (mU (mU (mU st.1 50 a (nI t)) 51 a (nI c)) 52 a (nI u)) 49 0 (nI (a + 1))), st.2)) (fun _ h => h) ?_
    exact w_iret rfl rfl rfl (by have hh := hq ((mU (mU (mU (mU st.1 50 a (nI t)) 51 a (nI c)) 52 a (nI u)) 49 0 (nI (a + 1))), st.2); rw [pI_t (show a < 30 by omega), show ad_a a 30 = a + 1 from if_pos (show a < 30 by omega)] at hh; exact hh ⟨XT_add hP t c u, (Fr.trans (Fr.trans (Fr.trans (Fr.trans (Fr.rf : Fr [49, 50, 51, 52] st st) (Fr.mU (by decide))) (Fr.mU (by decide))) (Fr.mU (by decide))) (Fr.mU (by decide)))⟩)
  · replace h1 : ¬ (a < 30) := fun hh => h1 ((nI_ltI (a := a) (b := 30) (by omega) (by omega)).mpr hh)
    refine w_blk 1 (pc' := 10) (ls' := [some (.ref 49), some (.int (nI t)), some (.int (nI c)), some (.int (nI u))]) (sk' := [.int 0]) (st' := st) (fun _ h => h) ?_
    exact w_iret rfl rfl rfl (by have hh := hq st; rw [pI_f (show ¬ a < 30 by omega), show ad_a a 30 = a from if_neg (show ¬ a < 30 by omega)] at hh; exact hh ⟨XT_no hP t c u, Fr.rf⟩)
set_option maxRecDepth 20000 in
/-- hole -/
theorem x_hole (d : Nat) (a : Nat) (T C U : Nat → Nat) (t c u : Int32) (st : mSt) (hP : XH st a T C U) (ha : a ≤ 8) : ∃ (s : mSt), mMC mT (d + 3) 103 [.ref 0, .int t, .int c, .int u] st (some (.int (sp_hole a t c u))) s ∧ XH s (hl_a a t c u) (updN T a t.toNatClampNeg) (updN C a c.toNatClampNeg) (updN U a u.toNatClampNeg) ∧ Fr [45, 46, 47, 48] st s := by
  suffices H : ∀ Q : Option Value → mSt → Prop, (∀ (s : mSt), (XH s (hl_a a t c u) (updN T a t.toNatClampNeg) (updN C a c.toNatClampNeg) (updN U a u.toNatClampNeg) ∧ Fr [45, 46, 47, 48] st s) → Q (some (.int (sp_hole a t c u))) s) → mW (mMC mT (d + 2)) (0, fun _ => 0) (mAtL P_X9_hole) (some .int) Q 0 [some (.ref 0), some (.int t), some (.int c), some (.int u)] [] st by
    obtain ⟨_, _, ⟨s, rfl, rfl, hp⟩, hw⟩ := mW_ex (H (fun vv tt => ∃ (s : mSt),  vv = some (.int (sp_hole a t c u)) ∧ s = tt ∧ XH s (hl_a a t c u) (updN T a t.toNatClampNeg) (updN C a c.toNatClampNeg) (updN U a u.toNatClampNeg) ∧ Fr [45, 46, 47, 48] st s) (fun s hp => ⟨s, rfl, rfl, hp⟩))
    exact ⟨s, mI_X9_hole (d := d + 2) (Nat.le_of_ble_eq_true rfl) hw, hp⟩
  intro Q hq
  refine w_blk 3 (pc' := 4) (ls' := [some (.ref 0), some (.int t), some (.int c), some (.int u)]) (sk' := [.int 99, .int 0, .int t]) (st' := st) (fun _ h => h) ?_
  refine w_callS (As := [.int t, .int 0, .int 99]) (rest := []) rfl rfl rfl (Nat.le_of_ble_eq_true rfl) (Nat.le_of_ble_eq_true rfl) (c_within (d + 1) t 0 99 st) ?_
  refine w_if_eq rfl (fun h1 => ?_) (fun h1 => ?_)
  · replace h1 := pI_eq0.mp h1
    refine w_blk 1 (pc' := 32) (ls' := [some (.ref 0), some (.int t), some (.int c), some (.int u)]) (sk' := [.int (-1)]) (st' := st) (fun _ h => h) ?_
    have hno : ¬ okH t c u := fun hh => by first | exact h1 hh.1 | exact h2 hh.2.1 | exact h3 hh.2.2
    exact w_iret rfl rfl rfl (by have hh := hq st; rw [show sp_hole a t c u = -1 from if_neg hno, show hl_a a t c u = a from if_neg (fun e => hno e.1)] at hh; exact hh ⟨XH_no hP _ _ _, Fr.rf⟩)
  · replace h1 := pI_ne.mp h1
    refine w_blk 3 (pc' := 14) (ls' := [some (.ref 0), some (.int t), some (.int c), some (.int u)]) (sk' := [.int 99, .int 1, .int c]) (st' := st) (fun _ h => h) ?_
    refine w_callS (As := [.int c, .int 1, .int 99]) (rest := []) rfl rfl rfl (Nat.le_of_ble_eq_true rfl) (Nat.le_of_ble_eq_true rfl) (c_within (d + 1) c 1 99 st) ?_
    refine w_if_eq rfl (fun h2 => ?_) (fun h2 => ?_)
    · replace h2 := pI_eq0.mp h2
      refine w_blk 1 (pc' := 32) (ls' := [some (.ref 0), some (.int t), some (.int c), some (.int u)]) (sk' := [.int (-1)]) (st' := st) (fun _ h => h) ?_
      have hno : ¬ okH t c u := fun hh => by first | exact h1 hh.1 | exact h2 hh.2.1 | exact h3 hh.2.2
      exact w_iret rfl rfl rfl (by have hh := hq st; rw [show sp_hole a t c u = -1 from if_neg hno, show hl_a a t c u = a from if_neg (fun e => hno e.1)] at hh; exact hh ⟨XH_no hP _ _ _, Fr.rf⟩)
    · replace h2 := pI_ne.mp h2
      refine w_blk 3 (pc' := 25) (ls' := [some (.ref 0), some (.int t), some (.int c), some (.int u)]) (sk' := [.int 200, .int t, .int u]) (st' := st) (fun _ h => h) ?_
      refine w_callS (As := [.int u, .int t, .int 200]) (rest := []) rfl rfl rfl (Nat.le_of_ble_eq_true rfl) (Nat.le_of_ble_eq_true rfl) (c_within (d + 1) u t 200 st) ?_
      refine w_if_ne rfl (fun h3 => ?_) (fun h3 => ?_)
      · replace h3 := pI_ne.mp h3
        have hok : okH t c u := ⟨h1, h2, h3⟩
        obtain ⟨t', -, ht99, rfl⟩ := nI_within (a := 0) (b := 99) h1 (by decide) (by decide)
        obtain ⟨c', hc1, hc99, rfl⟩ := nI_within (a := 1) (b := 99) h2 (by decide) (by decide)
        obtain ⟨u', htu, hu200, rfl⟩ := nI_within (a := t') (b := 200) h3 (by omega) (by decide)
        refine w_blk 5 (pc' := 40) (ls' := [some (.ref 0), some (.int (nI t')), some (.int (nI c')), some (.int (nI u'))]) (sk' := [.int (nI u'), .int (nI c'), .int (nI t'), .ref 45]) (st' := st) (fun _ h => h) ?_
        obtain ⟨s1, hc_2, hP_3, hf_4⟩ := c_holeAdd (d + 0) a T C U t' c' u' st hP ha
        refine w_callV (As := [.ref 45, .int (nI t'), .int (nI c'), .int (nI u')]) (rest := []) rfl rfl rfl (Nat.le_of_ble_eq_true rfl) (Nat.le_of_ble_eq_true rfl) (by first | exact Or.inl ⟨rfl, rfl⟩ | exact Or.inr ⟨rfl, rfl⟩) hc_2 ?_
        refine w_if_eq rfl (fun h4 => ?_) (fun h4 => ?_)
        · replace h4 := pI_eq0.mp h4
          refine w_blk 1 (pc' := 58) (ls' := [some (.ref 0), some (.int (nI t')), some (.int (nI c')), some (.int (nI u'))]) (sk' := [.int (-3)]) (st' := s1) (fun _ h => h) ?_
          have ec1 := nI_clamp (show t' < 2 ^ 31 by omega)
          have ec2 := nI_clamp (show c' < 2 ^ 31 by omega)
          have ec3 := nI_clamp (show u' < 2 ^ 31 by omega)
          exact w_iret rfl rfl rfl (by have hh := hq s1; rw [show sp_hole a (nI t') (nI c') (nI u') = -3 from (if_pos hok).trans (if_neg h4), show hl_a a (nI t') (nI c') (nI u') = ad_a a 8 from (if_neg (fun e => h4 e.2)).trans (if_neg h4).symm, ec1, ec2, ec3] at hh; exact hh ⟨hP_3, hf_4⟩)
        · replace h4 := pI_ne.mp h4
          refine w_blk 3 (pc' := 53) (ls' := [some (.ref 0), some (.int (nI t')), some (.int (nI c')), some (.int (nI u'))]) (sk' := [.int (s1.1 45 0)]) (st' := s1) (fun _ h => h) ?_
          rw [hP_3.1]
          refine w_blk 1 (pc' := 58) (ls' := [some (.ref 0), some (.int (nI t')), some (.int (nI c')), some (.int (nI u'))]) (sk' := [.int (nI (ad_a a 8))]) (st' := s1) (fun _ h => h) ?_
          have ec1 := nI_clamp (show t' < 2 ^ 31 by omega)
          have ec2 := nI_clamp (show c' < 2 ^ 31 by omega)
          have ec3 := nI_clamp (show u' < 2 ^ 31 by omega)
          exact w_iret rfl rfl rfl (by have hh := hq s1; rw [show sp_hole a (nI t') (nI c') (nI u') = nI (ad_a a 8) from (if_pos hok).trans ((if_pos h4).trans (by rw [show ad_a a 8 = a + 1 from if_pos h4])), show hl_a a (nI t') (nI c') (nI u') = ad_a a 8 from (if_pos ⟨hok, h4⟩).trans (if_pos h4).symm, ec1, ec2, ec3] at hh; exact hh ⟨hP_3, hf_4⟩)
      · replace h3 := pI_eq0.mp (Decidable.not_not.mp h3)
        refine w_blk 1 (pc' := 32) (ls' := [some (.ref 0), some (.int t), some (.int c), some (.int u)]) (sk' := [.int (-1)]) (st' := st) (fun _ h => h) ?_
        have hno : ¬ okH t c u := fun hh => by first | exact h1 hh.1 | exact h2 hh.2.1 | exact h3 hh.2.2
        exact w_iret rfl rfl rfl (by have hh := hq st; rw [show sp_hole a t c u = -1 from if_neg hno, show hl_a a t c u = a from if_neg (fun e => hno e.1)] at hh; exact hh ⟨XH_no hP _ _ _, Fr.rf⟩)
set_option maxRecDepth 20000 in
/-- tell -/
theorem x_tell_5 (d : Nat) (n : Nat → Nat) (c : Nat → Nat → Nat) (a : Nat) (T C U : Nat → Nat) (r x y : Int32) (st : mSt) (hcw : st.1 0 1 = nI 5) (hX : X5 st n c) (hB : CB n c) (hP : XT st a T C U) (ha : a ≤ 30) : ∃ (s : mSt), mMC mT (d + 3) 107 [.ref 0, .int r, .int x, .int y] st (some (.int (sp_tell n a r x y))) s ∧ XT s (tl_a n a r x y) (updN T a r.toNatClampNeg) (updN C a x.toNatClampNeg) (updN U a y.toNatClampNeg) ∧ Fr [49, 50, 51, 52] st s := by
  suffices H : ∀ Q : Option Value → mSt → Prop, (∀ (s : mSt), (XT s (tl_a n a r x y) (updN T a r.toNatClampNeg) (updN C a x.toNatClampNeg) (updN U a y.toNatClampNeg) ∧ Fr [49, 50, 51, 52] st s) → Q (some (.int (sp_tell n a r x y))) s) → mW (mMC mT (d + 2)) (0, fun _ => 0) (mAtL P_X9_tell) (some .int) Q 0 [some (.ref 0), some (.int r), some (.int x), some (.int y)] [] st by
    obtain ⟨_, _, ⟨s, rfl, rfl, hp⟩, hw⟩ := mW_ex (H (fun vv tt => ∃ (s : mSt),  vv = some (.int (sp_tell n a r x y)) ∧ s = tt ∧ XT s (tl_a n a r x y) (updN T a r.toNatClampNeg) (updN C a x.toNatClampNeg) (updN U a y.toNatClampNeg) ∧ Fr [49, 50, 51, 52] st s) (fun s hp => ⟨s, rfl, rfl, hp⟩))
    exact ⟨s, mI_X9_tell (d := d + 2) (Nat.le_of_ble_eq_true rfl) hw, hp⟩
  intro Q hq
  have hcr : (st.1 0 1).toNatClampNeg = 5 := by rw [hcw]; rfl
  obtain ⟨hb0, hb1, hb2, hbd, hbs, hby⟩ := id hB
  refine w_blk 3 (pc' := 4) (ls' := [some (.ref 0), some (.int r), some (.int x), some (.int y)]) (sk' := [.int 99, .int 0, .int r]) (st' := st) (fun _ h => h) ?_
  refine w_callS (As := [.int r, .int 0, .int 99]) (rest := []) rfl rfl rfl (Nat.le_of_ble_eq_true rfl) (Nat.le_of_ble_eq_true rfl) (c_within (d + 1) r 0 99 st) ?_
  refine w_if_eq rfl (fun h1 => ?_) (fun h1 => ?_)
  · replace h1 := pI_eq0.mp h1
    refine w_blk 1 (pc' := 33) (ls' := [some (.ref 0), some (.int r), some (.int x), some (.int y)]) (sk' := [.int (-1)]) (st' := st) (fun _ h => h) ?_
    have hno : ¬ okT n r x y := fun hh => by first | exact h1 hh.1 | exact h2 hh.2.1 | exact h3 hh.2.2
    exact w_iret rfl rfl rfl (by have hh := hq st; rw [show sp_tell n a r x y = -1 from if_neg hno, show tl_a n a r x y = a from if_neg (fun e => hno e.1)] at hh; exact hh ⟨XT_no hP _ _ _, Fr.rf⟩)
  · replace h1 := pI_ne.mp h1
    refine w_blk 1 (pc' := 11) (ls' := [some (.ref 0), some (.int r), some (.int x), some (.int y)]) (sk' := [.ref 0]) (st' := st) (fun _ h => h) ?_
    refine w_blk 1 (pc' := 14) (ls' := [some (.ref 0), some (.int r), some (.int x), some (.int y)]) (sk' := [.ref (Int32.toNatClampNeg (st.1 0 1))]) (st' := st) (fun _ h => h) ?_
    rw [show Int32.toNatClampNeg (st.1 0 1) = 5 from hcr]
    refine w_blk 1 (pc' := 15) (ls' := [some (.ref 0), some (.int r), some (.int x), some (.int y)]) (sk' := [.int x, .ref 5]) (st' := st) (fun _ h => h) ?_
    refine w_callV (As := [.ref 5, .int x]) (rest := []) rfl rfl rfl (Nat.le_of_ble_eq_true rfl) (Nat.le_of_ble_eq_true rfl) (by first | exact Or.inl ⟨rfl, rfl⟩ | exact Or.inr ⟨rfl, rfl⟩) (c_hasDigger_5 (d + 1) x st) ?_
    rw [hX.1]
    refine w_if_eq rfl (fun h2 => ?_) (fun h2 => ?_)
    · replace h2 := pI_eq0.mp h2
      refine w_blk 1 (pc' := 33) (ls' := [some (.ref 0), some (.int r), some (.int x), some (.int y)]) (sk' := [.int (-1)]) (st' := st) (fun _ h => h) ?_
      have hno : ¬ okT n r x y := fun hh => by first | exact h1 hh.1 | exact h2 hh.2.1 | exact h3 hh.2.2
      exact w_iret rfl rfl rfl (by have hh := hq st; rw [show sp_tell n a r x y = -1 from if_neg hno, show tl_a n a r x y = a from if_neg (fun e => hno e.1)] at hh; exact hh ⟨XT_no hP _ _ _, Fr.rf⟩)
    · replace h2 := pI_ne.mp h2
      refine w_blk 1 (pc' := 22) (ls' := [some (.ref 0), some (.int r), some (.int x), some (.int y)]) (sk' := [.ref 0]) (st' := st) (fun _ h => h) ?_
      refine w_blk 1 (pc' := 25) (ls' := [some (.ref 0), some (.int r), some (.int x), some (.int y)]) (sk' := [.ref (Int32.toNatClampNeg (st.1 0 1))]) (st' := st) (fun _ h => h) ?_
      rw [show Int32.toNatClampNeg (st.1 0 1) = 5 from hcr]
      refine w_blk 1 (pc' := 26) (ls' := [some (.ref 0), some (.int r), some (.int x), some (.int y)]) (sk' := [.int y, .ref 5]) (st' := st) (fun _ h => h) ?_
      refine w_callV (As := [.ref 5, .int y]) (rest := []) rfl rfl rfl (Nat.le_of_ble_eq_true rfl) (Nat.le_of_ble_eq_true rfl) (by first | exact Or.inl ⟨rfl, rfl⟩ | exact Or.inr ⟨rfl, rfl⟩) (c_hasSpade_5 (d + 1) y st) ?_
      rw [hX.2.1]
      refine w_if_ne rfl (fun h3 => ?_) (fun h3 => ?_)
      · replace h3 := pI_ne.mp h3
        have hok : okT n r x y := ⟨h1, h2, h3⟩
        obtain ⟨r', -, hr99, rfl⟩ := nI_within (a := 0) (b := 99) h1 (by decide) (by decide)
        obtain ⟨k, hk, rfl⟩ := nI_in2 (by omega) h2
        obtain ⟨j, hj, rfl⟩ := nI_in2 (by omega) h3
        refine w_blk 5 (pc' := 41) (ls' := [some (.ref 0), some (.int (nI r')), some (.int (nI k)), some (.int (nI j))]) (sk' := [.int (nI j), .int (nI k), .int (nI r'), .ref 49]) (st' := st) (fun _ h => h) ?_
        obtain ⟨s1, hc_2, hP_3, hf_4⟩ := c_toldAdd (d + 0) a T C U r' k j st hP ha
        refine w_callV (As := [.ref 49, .int (nI r'), .int (nI k), .int (nI j)]) (rest := []) rfl rfl rfl (Nat.le_of_ble_eq_true rfl) (Nat.le_of_ble_eq_true rfl) (by first | exact Or.inl ⟨rfl, rfl⟩ | exact Or.inr ⟨rfl, rfl⟩) hc_2 ?_
        refine w_if_eq rfl (fun h4 => ?_) (fun h4 => ?_)
        · replace h4 := pI_eq0.mp h4
          refine w_blk 1 (pc' := 59) (ls' := [some (.ref 0), some (.int (nI r')), some (.int (nI k)), some (.int (nI j))]) (sk' := [.int (-3)]) (st' := s1) (fun _ h => h) ?_
          have ec1 := nI_clamp (show r' < 2 ^ 31 by omega)
          have ec2 := nI_clamp (show k < 2 ^ 31 by omega)
          have ec3 := nI_clamp (show j < 2 ^ 31 by omega)
          exact w_iret rfl rfl rfl (by have hh := hq s1; rw [show sp_tell n a (nI r') (nI k) (nI j) = -3 from (if_pos hok).trans (if_neg h4), show tl_a n a (nI r') (nI k) (nI j) = ad_a a 30 from (if_neg (fun e => h4 e.2)).trans (if_neg h4).symm, ec1, ec2, ec3] at hh; exact hh ⟨hP_3, hf_4⟩)
        · replace h4 := pI_ne.mp h4
          refine w_blk 3 (pc' := 54) (ls' := [some (.ref 0), some (.int (nI r')), some (.int (nI k)), some (.int (nI j))]) (sk' := [.int (s1.1 49 0)]) (st' := s1) (fun _ h => h) ?_
          rw [hP_3.1]
          refine w_blk 1 (pc' := 59) (ls' := [some (.ref 0), some (.int (nI r')), some (.int (nI k)), some (.int (nI j))]) (sk' := [.int (nI (ad_a a 30))]) (st' := s1) (fun _ h => h) ?_
          have ec1 := nI_clamp (show r' < 2 ^ 31 by omega)
          have ec2 := nI_clamp (show k < 2 ^ 31 by omega)
          have ec3 := nI_clamp (show j < 2 ^ 31 by omega)
          exact w_iret rfl rfl rfl (by have hh := hq s1; rw [show sp_tell n a (nI r') (nI k) (nI j) = nI (ad_a a 30) from (if_pos hok).trans ((if_pos h4).trans (by rw [show ad_a a 30 = a + 1 from if_pos h4])), show tl_a n a (nI r') (nI k) (nI j) = ad_a a 30 from (if_pos ⟨hok, h4⟩).trans (if_pos h4).symm, ec1, ec2, ec3] at hh; exact hh ⟨hP_3, hf_4⟩)
      · replace h3 := pI_eq0.mp (Decidable.not_not.mp h3)
        refine w_blk 1 (pc' := 33) (ls' := [some (.ref 0), some (.int r), some (.int x), some (.int y)]) (sk' := [.int (-1)]) (st' := st) (fun _ h => h) ?_
        have hno : ¬ okT n r x y := fun hh => by first | exact h1 hh.1 | exact h2 hh.2.1 | exact h3 hh.2.2
        exact w_iret rfl rfl rfl (by have hh := hq st; rw [show sp_tell n a r x y = -1 from if_neg hno, show tl_a n a r x y = a from if_neg (fun e => hno e.1)] at hh; exact hh ⟨XT_no hP _ _ _, Fr.rf⟩)
set_option maxRecDepth 20000 in
/-- tell -/
theorem x_tell_13 (d : Nat) (n : Nat → Nat) (c : Nat → Nat → Nat) (a : Nat) (T C U : Nat → Nat) (r x y : Int32) (st : mSt) (hcw : st.1 0 1 = nI 13) (hX : X13 st n c) (hB : CB n c) (hP : XT st a T C U) (ha : a ≤ 30) : ∃ (s : mSt), mMC mT (d + 3) 107 [.ref 0, .int r, .int x, .int y] st (some (.int (sp_tell n a r x y))) s ∧ XT s (tl_a n a r x y) (updN T a r.toNatClampNeg) (updN C a x.toNatClampNeg) (updN U a y.toNatClampNeg) ∧ Fr [49, 50, 51, 52] st s := by
  suffices H : ∀ Q : Option Value → mSt → Prop, (∀ (s : mSt), (XT s (tl_a n a r x y) (updN T a r.toNatClampNeg) (updN C a x.toNatClampNeg) (updN U a y.toNatClampNeg) ∧ Fr [49, 50, 51, 52] st s) → Q (some (.int (sp_tell n a r x y))) s) → mW (mMC mT (d + 2)) (0, fun _ => 0) (mAtL P_X9_tell) (some .int) Q 0 [some (.ref 0), some (.int r), some (.int x), some (.int y)] [] st by
    obtain ⟨_, _, ⟨s, rfl, rfl, hp⟩, hw⟩ := mW_ex (H (fun vv tt => ∃ (s : mSt),  vv = some (.int (sp_tell n a r x y)) ∧ s = tt ∧ XT s (tl_a n a r x y) (updN T a r.toNatClampNeg) (updN C a x.toNatClampNeg) (updN U a y.toNatClampNeg) ∧ Fr [49, 50, 51, 52] st s) (fun s hp => ⟨s, rfl, rfl, hp⟩))
    exact ⟨s, mI_X9_tell (d := d + 2) (Nat.le_of_ble_eq_true rfl) hw, hp⟩
  intro Q hq
  have hcr : (st.1 0 1).toNatClampNeg = 13 := by rw [hcw]; rfl
  obtain ⟨hb0, hb1, hb2, hbd, hbs, hby⟩ := id hB
  refine w_blk 3 (pc' := 4) (ls' := [some (.ref 0), some (.int r), some (.int x), some (.int y)]) (sk' := [.int 99, .int 0, .int r]) (st' := st) (fun _ h => h) ?_
  refine w_callS (As := [.int r, .int 0, .int 99]) (rest := []) rfl rfl rfl (Nat.le_of_ble_eq_true rfl) (Nat.le_of_ble_eq_true rfl) (c_within (d + 1) r 0 99 st) ?_
  refine w_if_eq rfl (fun h1 => ?_) (fun h1 => ?_)
  · replace h1 := pI_eq0.mp h1
    refine w_blk 1 (pc' := 33) (ls' := [some (.ref 0), some (.int r), some (.int x), some (.int y)]) (sk' := [.int (-1)]) (st' := st) (fun _ h => h) ?_
    have hno : ¬ okT n r x y := fun hh => by first | exact h1 hh.1 | exact h2 hh.2.1 | exact h3 hh.2.2
    exact w_iret rfl rfl rfl (by have hh := hq st; rw [show sp_tell n a r x y = -1 from if_neg hno, show tl_a n a r x y = a from if_neg (fun e => hno e.1)] at hh; exact hh ⟨XT_no hP _ _ _, Fr.rf⟩)
  · replace h1 := pI_ne.mp h1
    refine w_blk 1 (pc' := 11) (ls' := [some (.ref 0), some (.int r), some (.int x), some (.int y)]) (sk' := [.ref 0]) (st' := st) (fun _ h => h) ?_
    refine w_blk 1 (pc' := 14) (ls' := [some (.ref 0), some (.int r), some (.int x), some (.int y)]) (sk' := [.ref (Int32.toNatClampNeg (st.1 0 1))]) (st' := st) (fun _ h => h) ?_
    rw [show Int32.toNatClampNeg (st.1 0 1) = 13 from hcr]
    refine w_blk 1 (pc' := 15) (ls' := [some (.ref 0), some (.int r), some (.int x), some (.int y)]) (sk' := [.int x, .ref 13]) (st' := st) (fun _ h => h) ?_
    refine w_callV (As := [.ref 13, .int x]) (rest := []) rfl rfl rfl (Nat.le_of_ble_eq_true rfl) (Nat.le_of_ble_eq_true rfl) (by first | exact Or.inl ⟨rfl, rfl⟩ | exact Or.inr ⟨rfl, rfl⟩) (c_hasDigger_13 (d + 1) x st) ?_
    rw [hX.1]
    refine w_if_eq rfl (fun h2 => ?_) (fun h2 => ?_)
    · replace h2 := pI_eq0.mp h2
      refine w_blk 1 (pc' := 33) (ls' := [some (.ref 0), some (.int r), some (.int x), some (.int y)]) (sk' := [.int (-1)]) (st' := st) (fun _ h => h) ?_
      have hno : ¬ okT n r x y := fun hh => by first | exact h1 hh.1 | exact h2 hh.2.1 | exact h3 hh.2.2
      exact w_iret rfl rfl rfl (by have hh := hq st; rw [show sp_tell n a r x y = -1 from if_neg hno, show tl_a n a r x y = a from if_neg (fun e => hno e.1)] at hh; exact hh ⟨XT_no hP _ _ _, Fr.rf⟩)
    · replace h2 := pI_ne.mp h2
      refine w_blk 1 (pc' := 22) (ls' := [some (.ref 0), some (.int r), some (.int x), some (.int y)]) (sk' := [.ref 0]) (st' := st) (fun _ h => h) ?_
      refine w_blk 1 (pc' := 25) (ls' := [some (.ref 0), some (.int r), some (.int x), some (.int y)]) (sk' := [.ref (Int32.toNatClampNeg (st.1 0 1))]) (st' := st) (fun _ h => h) ?_
      rw [show Int32.toNatClampNeg (st.1 0 1) = 13 from hcr]
      refine w_blk 1 (pc' := 26) (ls' := [some (.ref 0), some (.int r), some (.int x), some (.int y)]) (sk' := [.int y, .ref 13]) (st' := st) (fun _ h => h) ?_
      refine w_callV (As := [.ref 13, .int y]) (rest := []) rfl rfl rfl (Nat.le_of_ble_eq_true rfl) (Nat.le_of_ble_eq_true rfl) (by first | exact Or.inl ⟨rfl, rfl⟩ | exact Or.inr ⟨rfl, rfl⟩) (c_hasSpade_13 (d + 1) y st) ?_
      rw [hX.2.1]
      refine w_if_ne rfl (fun h3 => ?_) (fun h3 => ?_)
      · replace h3 := pI_ne.mp h3
        have hok : okT n r x y := ⟨h1, h2, h3⟩
        obtain ⟨r', -, hr99, rfl⟩ := nI_within (a := 0) (b := 99) h1 (by decide) (by decide)
        obtain ⟨k, hk, rfl⟩ := nI_in2 (by omega) h2
        obtain ⟨j, hj, rfl⟩ := nI_in2 (by omega) h3
        refine w_blk 5 (pc' := 41) (ls' := [some (.ref 0), some (.int (nI r')), some (.int (nI k)), some (.int (nI j))]) (sk' := [.int (nI j), .int (nI k), .int (nI r'), .ref 49]) (st' := st) (fun _ h => h) ?_
        obtain ⟨s1, hc_2, hP_3, hf_4⟩ := c_toldAdd (d + 0) a T C U r' k j st hP ha
        refine w_callV (As := [.ref 49, .int (nI r'), .int (nI k), .int (nI j)]) (rest := []) rfl rfl rfl (Nat.le_of_ble_eq_true rfl) (Nat.le_of_ble_eq_true rfl) (by first | exact Or.inl ⟨rfl, rfl⟩ | exact Or.inr ⟨rfl, rfl⟩) hc_2 ?_
        refine w_if_eq rfl (fun h4 => ?_) (fun h4 => ?_)
        · replace h4 := pI_eq0.mp h4
          refine w_blk 1 (pc' := 59) (ls' := [some (.ref 0), some (.int (nI r')), some (.int (nI k)), some (.int (nI j))]) (sk' := [.int (-3)]) (st' := s1) (fun _ h => h) ?_
          have ec1 := nI_clamp (show r' < 2 ^ 31 by omega)
          have ec2 := nI_clamp (show k < 2 ^ 31 by omega)
          have ec3 := nI_clamp (show j < 2 ^ 31 by omega)
          exact w_iret rfl rfl rfl (by have hh := hq s1; rw [show sp_tell n a (nI r') (nI k) (nI j) = -3 from (if_pos hok).trans (if_neg h4), show tl_a n a (nI r') (nI k) (nI j) = ad_a a 30 from (if_neg (fun e => h4 e.2)).trans (if_neg h4).symm, ec1, ec2, ec3] at hh; exact hh ⟨hP_3, hf_4⟩)
        · replace h4 := pI_ne.mp h4
          refine w_blk 3 (pc' := 54) (ls' := [some (.ref 0), some (.int (nI r')), some (.int (nI k)), some (.int (nI j))]) (sk' := [.int (s1.1 49 0)]) (st' := s1) (fun _ h => h) ?_
          rw [hP_3.1]
          refine w_blk 1 (pc' := 59) (ls' := [some (.ref 0), some (.int (nI r')), some (.int (nI k)), some (.int (nI j))]) (sk' := [.int (nI (ad_a a 30))]) (st' := s1) (fun _ h => h) ?_
          have ec1 := nI_clamp (show r' < 2 ^ 31 by omega)
          have ec2 := nI_clamp (show k < 2 ^ 31 by omega)
          have ec3 := nI_clamp (show j < 2 ^ 31 by omega)
          exact w_iret rfl rfl rfl (by have hh := hq s1; rw [show sp_tell n a (nI r') (nI k) (nI j) = nI (ad_a a 30) from (if_pos hok).trans ((if_pos h4).trans (by rw [show ad_a a 30 = a + 1 from if_pos h4])), show tl_a n a (nI r') (nI k) (nI j) = ad_a a 30 from (if_pos ⟨hok, h4⟩).trans (if_pos h4).symm, ec1, ec2, ec3] at hh; exact hh ⟨hP_3, hf_4⟩)
      · replace h3 := pI_eq0.mp (Decidable.not_not.mp h3)
        refine w_blk 1 (pc' := 33) (ls' := [some (.ref 0), some (.int r), some (.int x), some (.int y)]) (sk' := [.int (-1)]) (st' := st) (fun _ h => h) ?_
        have hno : ¬ okT n r x y := fun hh => by first | exact h1 hh.1 | exact h2 hh.2.1 | exact h3 hh.2.2
        exact w_iret rfl rfl rfl (by have hh := hq st; rw [show sp_tell n a r x y = -1 from if_neg hno, show tl_a n a r x y = a from if_neg (fun e => hno e.1)] at hh; exact hh ⟨XT_no hP _ _ _, Fr.rf⟩)
set_option maxRecDepth 20000 in
/-- dry -/
theorem x_dry (d : Nat) (a : Nat) (T C U : Nat → Nat) (st : mSt) (hP : XH st a T C U) : ∃ (s : mSt), mMC mT (d + 1) 106 [.ref 0] st (some (.int (nI a))) s ∧ XH s 0 T C U ∧ Fr [45, 46, 47, 48] st s := by
  suffices H : ∀ Q : Option Value → mSt → Prop, (∀ (s : mSt), (XH s 0 T C U ∧ Fr [45, 46, 47, 48] st s) → Q (some (.int (nI a))) s) → mW (mMC mT (d + 0)) (0, fun _ => 0) (mAtL P_X9_dry) (some .int) Q 0 [some (.ref 0), none] [] st by
    obtain ⟨_, _, ⟨s, rfl, rfl, hp⟩, hw⟩ := mW_ex (H (fun vv tt => ∃ (s : mSt),  vv = some (.int (nI a)) ∧ s = tt ∧ XH s 0 T C U ∧ Fr [45, 46, 47, 48] st s) (fun s hp => ⟨s, rfl, rfl, hp⟩))
    exact ⟨s, mI_X9_dry (d := d + 0) (Nat.le_of_ble_eq_true rfl) hw, hp⟩
  intro Q hq
  refine w_blk 3 (pc' := 7) (ls' := [some (.ref 0), none]) (sk' := [.int (st.1 45 0)]) (st' := st) (fun _ h => h) ?_
  rw [hP.1]
  refine w_blk 6 (pc' := 17) (ls' := [some (.ref 0), some (.int (nI a))]) (sk' := [.int (nI a)]) (st' := ((mU st.1 45 0 0), st.2)) (fun _ h => h) ?_
  exact w_iret rfl rfl rfl (hq _ ⟨⟨rfl, fun k hk => absurd hk (by omega)⟩, Fr.trans Fr.rf (Fr.mU (by decide))⟩)
set_option maxRecDepth 20000 in
/-- imageAt(0) -/
theorem c_imageAt_0 (d : Nat)  (st : mSt) : mMC mT (d + 1) 114 [.ref 0, .int 0] st (some (.ref 25)) st := by
  refine mI_X9_imageAt (d := d + 0) (Nat.le_of_ble_eq_true rfl) (fun Q hq => ?_)
  show mW (mMC mT (d + 0)) (0, fun _ => 0) (mAtL P_X9_imageAt) (some (.object "SpadeRings$Now")) Q 0 [some (.ref 0), some (.int 0)] [] st
  refine w_blk 1 (pc' := 1) (ls' := [some (.ref 0), some (.int 0)]) (sk' := [.int 0]) (st' := st) (fun _ h => h) ?_
  refine w_if_lt rfl (fun hno => absurd hno (show ¬ (0 : Int32) < 0 by decide)) (fun _ => ?_)
  refine w_blk 4 (pc' := 10) (ls' := [some (.ref 0), some (.int 0)]) (sk' := [.int (Int32.ofNat 2), .int 0]) (st' := st) (fun _ h => h) ?_
  refine w_cmp_ge rfl (fun hno => absurd hno (show ¬ (Int32.ofNat 2) ≤ (0 : Int32) by decide)) (fun _ => ?_)
  refine w_blk 3 (pc' := 18) (ls' := [some (.ref 0), some (.int 0)]) (sk' := [.int 0, .ref 24]) (st' := st) (fun _ h => h) ?_
  refine w_aald (q := 0) rfl rfl (vp_in_nI (n := 0) (N := 2) (by decide) (by decide)) rfl ?_
  refine w_blk 1 (pc' := 23) (ls' := [some (.ref 0), some (.int 0)]) (sk' := [.ref 25]) (st' := st) (fun _ h => h) ?_
  exact w_aret rfl rfl (by decide) hq
set_option maxRecDepth 20000 in
/-- imageAt(1) -/
theorem c_imageAt_1 (d : Nat)  (st : mSt) : mMC mT (d + 1) 114 [.ref 0, .int 1] st (some (.ref 28)) st := by
  refine mI_X9_imageAt (d := d + 0) (Nat.le_of_ble_eq_true rfl) (fun Q hq => ?_)
  show mW (mMC mT (d + 0)) (0, fun _ => 0) (mAtL P_X9_imageAt) (some (.object "SpadeRings$Now")) Q 0 [some (.ref 0), some (.int 1)] [] st
  refine w_blk 1 (pc' := 1) (ls' := [some (.ref 0), some (.int 1)]) (sk' := [.int 1]) (st' := st) (fun _ h => h) ?_
  refine w_if_lt rfl (fun hno => absurd hno (show ¬ (1 : Int32) < 0 by decide)) (fun _ => ?_)
  refine w_blk 4 (pc' := 10) (ls' := [some (.ref 0), some (.int 1)]) (sk' := [.int (Int32.ofNat 2), .int 1]) (st' := st) (fun _ h => h) ?_
  refine w_cmp_ge rfl (fun hno => absurd hno (show ¬ (Int32.ofNat 2) ≤ (1 : Int32) by decide)) (fun _ => ?_)
  refine w_blk 3 (pc' := 18) (ls' := [some (.ref 0), some (.int 1)]) (sk' := [.int 1, .ref 24]) (st' := st) (fun _ h => h) ?_
  refine w_aald (q := 0) rfl rfl (vp_in_nI (n := 1) (N := 2) (by decide) (by decide)) rfl ?_
  refine w_blk 1 (pc' := 23) (ls' := [some (.ref 0), some (.int 1)]) (sk' := [.ref 28]) (st' := st) (fun _ h => h) ?_
  exact w_aret rfl rfl (by decide) hq
set_option maxRecDepth 20000 in
/-- imageAt(x), no such image -/
theorem c_imageAt_no (d : Nat) (x : Int32) (st : mSt) (hx : ¬ (0 ≤ x ∧ x < 2)) : mMC mT (d + 1) 114 [.ref 0, .int x] st (some (.null)) st := by
  refine mI_X9_imageAt (d := d + 0) (Nat.le_of_ble_eq_true rfl) (fun Q hq => ?_)
  show mW (mMC mT (d + 0)) (0, fun _ => 0) (mAtL P_X9_imageAt) (some (.object "SpadeRings$Now")) Q 0 [some (.ref 0), some (.int x)] [] st
  refine w_blk 1 (pc' := 1) (ls' := [some (.ref 0), some (.int x)]) (sk' := [.int x]) (st' := st) (fun _ h => h) ?_
  refine w_if_lt rfl (fun h1 => ?_) (fun h1 => ?_)
  · refine w_blk 1 (pc' := 23) (ls' := [some (.ref 0), some (.int x)]) (sk' := [.null]) (st' := st) (fun _ h => h) ?_
    exact w_aretN rfl rfl hq
  · refine w_blk 4 (pc' := 10) (ls' := [some (.ref 0), some (.int x)]) (sk' := [.int (Int32.ofNat 2), .int x]) (st' := st) (fun _ h => h) ?_
    refine w_cmp_ge rfl (fun _ => ?_) (fun hno => absurd (by simp only [Int32.le_iff_toInt_le, Int32.lt_iff_toInt_lt] at *; have e : (Int32.ofNat 2).toInt = 2 := rfl; have e0 : (0 : Int32).toInt = 0 := rfl; have e2 : (2 : Int32).toInt = 2 := rfl; omega) hno)
    refine w_blk 1 (pc' := 23) (ls' := [some (.ref 0), some (.int x)]) (sk' := [.null]) (st' := st) (fun _ h => h) ?_
    exact w_aretN rfl rfl hq
set_option maxRecDepth 20000 in
/-- keep, no such image -/
theorem x_keep_no (d : Nat) (x : Int32) (st : mSt) (hx : ¬ (0 ≤ x ∧ x < 2)) : mMC mT (d + 3) 110 [.ref 0, .int x] st (some (.int (-1))) st := by
  refine mI_X9_keep (d := d + 2) (Nat.le_of_ble_eq_true rfl) (fun Q hq => ?_)
  show mW (mMC mT (d + 2)) (0, fun _ => 0) (mAtL P_X9_keep) (some .int) Q 0 [some (.ref 0), some (.int x), none] [] st
  refine w_blk 2 (pc' := 2) (ls' := [some (.ref 0), some (.int x), none]) (sk' := [.int x, .ref 0]) (st' := st) (fun _ h => h) ?_
  refine w_callV (As := [.ref 0, .int x]) (rest := []) rfl rfl rfl (Nat.le_of_ble_eq_true rfl) (Nat.le_of_ble_eq_true rfl) (by first | exact Or.inl ⟨rfl, rfl⟩ | exact Or.inr ⟨rfl, rfl⟩) (c_imageAt_no (d + 1) x st hx) ?_
  refine w_blk 4 (pc' := 11) (ls' := [some (.ref 0), some (.int x), some (.null)]) (sk' := [.int (-1)]) (st' := st) (fun _ h => h) ?_
  exact w_iret rfl rfl rfl hq
set_option maxRecDepth 20000 in
/-- back, no such image -/
theorem x_back_no (d : Nat) (x : Int32) (st : mSt) (hx : ¬ (0 ≤ x ∧ x < 2)) : mMC mT (d + 3) 111 [.ref 0, .int x] st (some (.int (-1))) st := by
  refine mI_X9_back (d := d + 2) (Nat.le_of_ble_eq_true rfl) (fun Q hq => ?_)
  show mW (mMC mT (d + 2)) (0, fun _ => 0) (mAtL P_X9_back) (some .int) Q 0 [some (.ref 0), some (.int x), none] [] st
  refine w_blk 2 (pc' := 2) (ls' := [some (.ref 0), some (.int x), none]) (sk' := [.int x, .ref 0]) (st' := st) (fun _ h => h) ?_
  refine w_callV (As := [.ref 0, .int x]) (rest := []) rfl rfl rfl (Nat.le_of_ble_eq_true rfl) (Nat.le_of_ble_eq_true rfl) (by first | exact Or.inl ⟨rfl, rfl⟩ | exact Or.inr ⟨rfl, rfl⟩) (c_imageAt_no (d + 1) x st hx) ?_
  refine w_blk 4 (pc' := 11) (ls' := [some (.ref 0), some (.int x), some (.null)]) (sk' := [.int (-1)]) (st' := st) (fun _ h => h) ?_
  exact w_iret rfl rfl rfl hq
set_option maxRecDepth 20000 in
/-- keep(0) -/
theorem x_keep_0 (d : Nat) (v : Nat → Int32) (u : Nat → Nat) (yd : Nat) (kb : Nat) (st : mSt) (hN : N21 st v u yd) (hkb : st.1 0 5 = nI kb) : ∃ (s : mSt), mMC mT (d + 3) 110 [.ref 0, .int 0] st (some (.int (v 0))) s ∧ N25 s v u yd ∧ s.1 0 5 = nI (kb ||| 1) ∧ Fr [0, 25, 26, 27] st s ∧ Fk 0 [5] st s ∧ s.2 0 = st.2 0 := by
  suffices H : ∀ Q : Option Value → mSt → Prop, (∀ (s : mSt), (N25 s v u yd ∧ s.1 0 5 = nI (kb ||| 1) ∧ Fr [0, 25, 26, 27] st s ∧ Fk 0 [5] st s ∧ s.2 0 = st.2 0) → Q (some (.int (v 0))) s) → mW (mMC mT (d + 2)) (0, fun _ => 0) (mAtL P_X9_keep) (some .int) Q 0 [some (.ref 0), some (.int 0), none] [] st by
    obtain ⟨_, _, ⟨s, rfl, rfl, hp⟩, hw⟩ := mW_ex (H (fun vv tt => ∃ (s : mSt),  vv = some (.int (v 0)) ∧ s = tt ∧ N25 s v u yd ∧ s.1 0 5 = nI (kb ||| 1) ∧ Fr [0, 25, 26, 27] st s ∧ Fk 0 [5] st s ∧ s.2 0 = st.2 0) (fun s hp => ⟨s, rfl, rfl, hp⟩))
    exact ⟨s, mI_X9_keep (d := d + 2) (Nat.le_of_ble_eq_true rfl) hw, hp⟩
  intro Q hq
  refine w_blk 2 (pc' := 2) (ls' := [some (.ref 0), some (.int 0), none]) (sk' := [.int 0, .ref 0]) (st' := st) (fun _ h => h) ?_
  refine w_callV (As := [.ref 0, .int 0]) (rest := []) rfl rfl rfl (Nat.le_of_ble_eq_true rfl) (Nat.le_of_ble_eq_true rfl) (by first | exact Or.inl ⟨rfl, rfl⟩ | exact Or.inr ⟨rfl, rfl⟩) (c_imageAt_0 (d + 1) st) ?_
  refine w_blk 6 (pc' := 17) (ls' := [some (.ref 0), some (.int 0), some (.ref 25)]) (sk' := [.ref 21, .ref 25]) (st' := st) (fun _ h => h) ?_
  obtain ⟨s1, hc_2, hN_3, hf_4⟩ := c_copy_21_25 (d + 0) v u yd st hN
  refine w_callV (As := [.ref 25, .ref 21]) (rest := []) rfl rfl rfl (Nat.le_of_ble_eq_true rfl) (Nat.le_of_ble_eq_true rfl) (by first | exact Or.inl ⟨rfl, rfl⟩ | exact Or.inr ⟨rfl, rfl⟩) hc_2 ?_
  refine w_blk 3 (pc' := 25) (ls' := [some (.ref 0), some (.int 0), some (.ref 25)]) (sk' := [.int (s1.1 0 5), .ref 0]) (st' := s1) (fun _ h => h) ?_
  rw [(show s1.1 0 5 = nI kb from by rw [hf_4.1 0 (by decide)]; exact hkb)]
  refine w_blk 3 (pc' := 28) (ls' := [some (.ref 0), some (.int 0), some (.ref 25)]) (sk' := [.int ((1 : Int32) <<< ((0 : Int32) &&& 31)), .int (nI kb), .ref 0]) (st' := s1) (fun _ h => h) ?_
  rw [show ((1 : Int32) <<< ((0 : Int32) &&& 31)) = nI 1 from by decide]
  refine w_blk 1 (pc' := 29) (ls' := [some (.ref 0), some (.int 0), some (.ref 25)]) (sk' := [.int ((nI kb) ||| (nI 1)), .ref 0]) (st' := s1) (fun _ h => h) ?_
  rw [show ((nI kb) ||| (nI 1)) = nI (kb ||| 1) from nI_or kb 1]
  refine w_blk 4 (pc' := 39) (ls' := [some (.ref 0), some (.int 0), some (.ref 25)]) (sk' := [.int (s1.1 21 0)]) (st' := ((mU s1.1 0 5 (nI (kb ||| 1))), s1.2)) (fun _ h => h) ?_
  rw [(show s1.1 21 0 = v 0 from by rw [hf_4.1 21 (by decide)]; exact hN.1)]
  exact w_iret rfl rfl rfl (hq _ ⟨hN_3, mU_at (f := s1.1) (p := 0) (k := 5), Fr.trans (Fr.mono hf_4 (by decide)) (Fr.mU (by decide)), Fk.trans (Fk.fr hf_4 (by decide)) (Fk.wr (by decide)), hf_4.2 0 (by decide)⟩)
set_option maxRecDepth 20000 in
/-- back(0) -/
theorem x_back_0 (d : Nat) (v : Nat → Int32) (u : Nat → Nat) (yd : Nat) (kb : Nat) (st : mSt) (hN : N25 st v u yd) (hkb : st.1 0 5 = nI kb) (hk4 : kb < 4) (hbit : kb.testBit 0 = true) : ∃ (s : mSt), mMC mT (d + 3) 111 [.ref 0, .int 0] st (some (.int (v 0))) s ∧ N21 s v u yd ∧ Fr [21, 22, 23] st s := by
  suffices H : ∀ Q : Option Value → mSt → Prop, (∀ (s : mSt), (N21 s v u yd ∧ Fr [21, 22, 23] st s) → Q (some (.int (v 0))) s) → mW (mMC mT (d + 2)) (0, fun _ => 0) (mAtL P_X9_back) (some .int) Q 0 [some (.ref 0), some (.int 0), none] [] st by
    obtain ⟨_, _, ⟨s, rfl, rfl, hp⟩, hw⟩ := mW_ex (H (fun vv tt => ∃ (s : mSt),  vv = some (.int (v 0)) ∧ s = tt ∧ N21 s v u yd ∧ Fr [21, 22, 23] st s) (fun s hp => ⟨s, rfl, rfl, hp⟩))
    exact ⟨s, mI_X9_back (d := d + 2) (Nat.le_of_ble_eq_true rfl) hw, hp⟩
  intro Q hq
  refine w_blk 2 (pc' := 2) (ls' := [some (.ref 0), some (.int 0), none]) (sk' := [.int 0, .ref 0]) (st' := st) (fun _ h => h) ?_
  refine w_callV (As := [.ref 0, .int 0]) (rest := []) rfl rfl rfl (Nat.le_of_ble_eq_true rfl) (Nat.le_of_ble_eq_true rfl) (by first | exact Or.inl ⟨rfl, rfl⟩ | exact Or.inr ⟨rfl, rfl⟩) (c_imageAt_0 (d + 1) st) ?_
  refine w_blk 5 (pc' := 16) (ls' := [some (.ref 0), some (.int 0), some (.ref 25)]) (sk' := [.int (st.1 0 5)]) (st' := st) (fun _ h => h) ?_
  rw [hkb]
  refine w_blk 1 (pc' := 17) (ls' := [some (.ref 0), some (.int 0), some (.ref 25)]) (sk' := [.int 0, .int (nI kb)]) (st' := st) (fun _ h => h) ?_
  refine w_callS (As := [.int (nI kb), .int 0]) (rest := []) rfl rfl rfl (Nat.le_of_ble_eq_true rfl) (Nat.le_of_ble_eq_true rfl) (c_hasBit (d + 1) (nI kb) 0 st) ?_
  rw [show (pI (bitP (nI kb) 0)) = pI (Nat.testBit kb 0 = true) from pI_cong (bitP_nI (n := kb) (k := 0) (by omega) (by omega))]
  refine w_if_ne rfl (fun _ => ?_) (fun hno => absurd (pI_ne.mpr hbit) hno)
  refine w_blk 3 (pc' := 31) (ls' := [some (.ref 0), some (.int 0), some (.ref 25)]) (sk' := [.ref 25, .ref 21]) (st' := st) (fun _ h => h) ?_
  obtain ⟨s1, hc_2, hN_3, hf_4⟩ := c_copy_25_21 (d + 0) v u yd st hN
  refine w_callV (As := [.ref 21, .ref 25]) (rest := []) rfl rfl rfl (Nat.le_of_ble_eq_true rfl) (Nat.le_of_ble_eq_true rfl) (by first | exact Or.inl ⟨rfl, rfl⟩ | exact Or.inr ⟨rfl, rfl⟩) hc_2 ?_
  refine w_blk 3 (pc' := 41) (ls' := [some (.ref 0), some (.int 0), some (.ref 25)]) (sk' := [.int (s1.1 21 0)]) (st' := s1) (fun _ h => h) ?_
  rw [hN_3.1]
  exact w_iret rfl rfl rfl (hq _ ⟨hN_3, hf_4⟩)
set_option maxRecDepth 20000 in
/-- back(0), not kept -/
theorem x_back_none_0 (d : Nat) (kb : Nat) (st : mSt) (hkb : st.1 0 5 = nI kb) (hk4 : kb < 4) (hbit : ¬ kb.testBit 0 = true) : mMC mT (d + 3) 111 [.ref 0, .int 0] st (some (.int (-2))) st := by
  refine mI_X9_back (d := d + 2) (Nat.le_of_ble_eq_true rfl) (fun Q hq => ?_)
  show mW (mMC mT (d + 2)) (0, fun _ => 0) (mAtL P_X9_back) (some .int) Q 0 [some (.ref 0), some (.int 0), none] [] st
  refine w_blk 2 (pc' := 2) (ls' := [some (.ref 0), some (.int 0), none]) (sk' := [.int 0, .ref 0]) (st' := st) (fun _ h => h) ?_
  refine w_callV (As := [.ref 0, .int 0]) (rest := []) rfl rfl rfl (Nat.le_of_ble_eq_true rfl) (Nat.le_of_ble_eq_true rfl) (by first | exact Or.inl ⟨rfl, rfl⟩ | exact Or.inr ⟨rfl, rfl⟩) (c_imageAt_0 (d + 1) st) ?_
  refine w_blk 5 (pc' := 16) (ls' := [some (.ref 0), some (.int 0), some (.ref 25)]) (sk' := [.int (st.1 0 5)]) (st' := st) (fun _ h => h) ?_
  rw [hkb]
  refine w_blk 1 (pc' := 17) (ls' := [some (.ref 0), some (.int 0), some (.ref 25)]) (sk' := [.int 0, .int (nI kb)]) (st' := st) (fun _ h => h) ?_
  refine w_callS (As := [.int (nI kb), .int 0]) (rest := []) rfl rfl rfl (Nat.le_of_ble_eq_true rfl) (Nat.le_of_ble_eq_true rfl) (c_hasBit (d + 1) (nI kb) 0 st) ?_
  rw [show (pI (bitP (nI kb) 0)) = pI (Nat.testBit kb 0 = true) from pI_cong (bitP_nI (n := kb) (k := 0) (by omega) (by omega))]
  refine w_if_ne rfl (fun hno => absurd hno (not_not_intro (pI_eq0.mpr hbit))) (fun _ => ?_)
  refine w_blk 1 (pc' := 25) (ls' := [some (.ref 0), some (.int 0), some (.ref 25)]) (sk' := [.int (-2)]) (st' := st) (fun _ h => h) ?_
  exact w_iret rfl rfl rfl hq
set_option maxRecDepth 20000 in
/-- keep(1) -/
theorem x_keep_1 (d : Nat) (v : Nat → Int32) (u : Nat → Nat) (yd : Nat) (kb : Nat) (st : mSt) (hN : N21 st v u yd) (hkb : st.1 0 5 = nI kb) : ∃ (s : mSt), mMC mT (d + 3) 110 [.ref 0, .int 1] st (some (.int (v 0))) s ∧ N28 s v u yd ∧ s.1 0 5 = nI (kb ||| 2) ∧ Fr [0, 28, 29, 30] st s ∧ Fk 0 [5] st s ∧ s.2 0 = st.2 0 := by
  suffices H : ∀ Q : Option Value → mSt → Prop, (∀ (s : mSt), (N28 s v u yd ∧ s.1 0 5 = nI (kb ||| 2) ∧ Fr [0, 28, 29, 30] st s ∧ Fk 0 [5] st s ∧ s.2 0 = st.2 0) → Q (some (.int (v 0))) s) → mW (mMC mT (d + 2)) (0, fun _ => 0) (mAtL P_X9_keep) (some .int) Q 0 [some (.ref 0), some (.int 1), none] [] st by
    obtain ⟨_, _, ⟨s, rfl, rfl, hp⟩, hw⟩ := mW_ex (H (fun vv tt => ∃ (s : mSt),  vv = some (.int (v 0)) ∧ s = tt ∧ N28 s v u yd ∧ s.1 0 5 = nI (kb ||| 2) ∧ Fr [0, 28, 29, 30] st s ∧ Fk 0 [5] st s ∧ s.2 0 = st.2 0) (fun s hp => ⟨s, rfl, rfl, hp⟩))
    exact ⟨s, mI_X9_keep (d := d + 2) (Nat.le_of_ble_eq_true rfl) hw, hp⟩
  intro Q hq
  refine w_blk 2 (pc' := 2) (ls' := [some (.ref 0), some (.int 1), none]) (sk' := [.int 1, .ref 0]) (st' := st) (fun _ h => h) ?_
  refine w_callV (As := [.ref 0, .int 1]) (rest := []) rfl rfl rfl (Nat.le_of_ble_eq_true rfl) (Nat.le_of_ble_eq_true rfl) (by first | exact Or.inl ⟨rfl, rfl⟩ | exact Or.inr ⟨rfl, rfl⟩) (c_imageAt_1 (d + 1) st) ?_
  refine w_blk 6 (pc' := 17) (ls' := [some (.ref 0), some (.int 1), some (.ref 28)]) (sk' := [.ref 21, .ref 28]) (st' := st) (fun _ h => h) ?_
  obtain ⟨s1, hc_2, hN_3, hf_4⟩ := c_copy_21_28 (d + 0) v u yd st hN
  refine w_callV (As := [.ref 28, .ref 21]) (rest := []) rfl rfl rfl (Nat.le_of_ble_eq_true rfl) (Nat.le_of_ble_eq_true rfl) (by first | exact Or.inl ⟨rfl, rfl⟩ | exact Or.inr ⟨rfl, rfl⟩) hc_2 ?_
  refine w_blk 3 (pc' := 25) (ls' := [some (.ref 0), some (.int 1), some (.ref 28)]) (sk' := [.int (s1.1 0 5), .ref 0]) (st' := s1) (fun _ h => h) ?_
  rw [(show s1.1 0 5 = nI kb from by rw [hf_4.1 0 (by decide)]; exact hkb)]
  refine w_blk 3 (pc' := 28) (ls' := [some (.ref 0), some (.int 1), some (.ref 28)]) (sk' := [.int ((1 : Int32) <<< ((1 : Int32) &&& 31)), .int (nI kb), .ref 0]) (st' := s1) (fun _ h => h) ?_
  rw [show ((1 : Int32) <<< ((1 : Int32) &&& 31)) = nI 2 from by decide]
  refine w_blk 1 (pc' := 29) (ls' := [some (.ref 0), some (.int 1), some (.ref 28)]) (sk' := [.int ((nI kb) ||| (nI 2)), .ref 0]) (st' := s1) (fun _ h => h) ?_
  rw [show ((nI kb) ||| (nI 2)) = nI (kb ||| 2) from nI_or kb 2]
  refine w_blk 4 (pc' := 39) (ls' := [some (.ref 0), some (.int 1), some (.ref 28)]) (sk' := [.int (s1.1 21 0)]) (st' := ((mU s1.1 0 5 (nI (kb ||| 2))), s1.2)) (fun _ h => h) ?_
  rw [(show s1.1 21 0 = v 0 from by rw [hf_4.1 21 (by decide)]; exact hN.1)]
  exact w_iret rfl rfl rfl (hq _ ⟨hN_3, mU_at (f := s1.1) (p := 0) (k := 5), Fr.trans (Fr.mono hf_4 (by decide)) (Fr.mU (by decide)), Fk.trans (Fk.fr hf_4 (by decide)) (Fk.wr (by decide)), hf_4.2 0 (by decide)⟩)
set_option maxRecDepth 20000 in
/-- back(1) -/
theorem x_back_1 (d : Nat) (v : Nat → Int32) (u : Nat → Nat) (yd : Nat) (kb : Nat) (st : mSt) (hN : N28 st v u yd) (hkb : st.1 0 5 = nI kb) (hk4 : kb < 4) (hbit : kb.testBit 1 = true) : ∃ (s : mSt), mMC mT (d + 3) 111 [.ref 0, .int 1] st (some (.int (v 0))) s ∧ N21 s v u yd ∧ Fr [21, 22, 23] st s := by
  suffices H : ∀ Q : Option Value → mSt → Prop, (∀ (s : mSt), (N21 s v u yd ∧ Fr [21, 22, 23] st s) → Q (some (.int (v 0))) s) → mW (mMC mT (d + 2)) (0, fun _ => 0) (mAtL P_X9_back) (some .int) Q 0 [some (.ref 0), some (.int 1), none] [] st by
    obtain ⟨_, _, ⟨s, rfl, rfl, hp⟩, hw⟩ := mW_ex (H (fun vv tt => ∃ (s : mSt),  vv = some (.int (v 0)) ∧ s = tt ∧ N21 s v u yd ∧ Fr [21, 22, 23] st s) (fun s hp => ⟨s, rfl, rfl, hp⟩))
    exact ⟨s, mI_X9_back (d := d + 2) (Nat.le_of_ble_eq_true rfl) hw, hp⟩
  intro Q hq
  refine w_blk 2 (pc' := 2) (ls' := [some (.ref 0), some (.int 1), none]) (sk' := [.int 1, .ref 0]) (st' := st) (fun _ h => h) ?_
  refine w_callV (As := [.ref 0, .int 1]) (rest := []) rfl rfl rfl (Nat.le_of_ble_eq_true rfl) (Nat.le_of_ble_eq_true rfl) (by first | exact Or.inl ⟨rfl, rfl⟩ | exact Or.inr ⟨rfl, rfl⟩) (c_imageAt_1 (d + 1) st) ?_
  refine w_blk 5 (pc' := 16) (ls' := [some (.ref 0), some (.int 1), some (.ref 28)]) (sk' := [.int (st.1 0 5)]) (st' := st) (fun _ h => h) ?_
  rw [hkb]
  refine w_blk 1 (pc' := 17) (ls' := [some (.ref 0), some (.int 1), some (.ref 28)]) (sk' := [.int 1, .int (nI kb)]) (st' := st) (fun _ h => h) ?_
  refine w_callS (As := [.int (nI kb), .int 1]) (rest := []) rfl rfl rfl (Nat.le_of_ble_eq_true rfl) (Nat.le_of_ble_eq_true rfl) (c_hasBit (d + 1) (nI kb) 1 st) ?_
  rw [show (pI (bitP (nI kb) 1)) = pI (Nat.testBit kb 1 = true) from pI_cong (bitP_nI (n := kb) (k := 1) (by omega) (by omega))]
  refine w_if_ne rfl (fun _ => ?_) (fun hno => absurd (pI_ne.mpr hbit) hno)
  refine w_blk 3 (pc' := 31) (ls' := [some (.ref 0), some (.int 1), some (.ref 28)]) (sk' := [.ref 28, .ref 21]) (st' := st) (fun _ h => h) ?_
  obtain ⟨s1, hc_2, hN_3, hf_4⟩ := c_copy_28_21 (d + 0) v u yd st hN
  refine w_callV (As := [.ref 21, .ref 28]) (rest := []) rfl rfl rfl (Nat.le_of_ble_eq_true rfl) (Nat.le_of_ble_eq_true rfl) (by first | exact Or.inl ⟨rfl, rfl⟩ | exact Or.inr ⟨rfl, rfl⟩) hc_2 ?_
  refine w_blk 3 (pc' := 41) (ls' := [some (.ref 0), some (.int 1), some (.ref 28)]) (sk' := [.int (s1.1 21 0)]) (st' := s1) (fun _ h => h) ?_
  rw [hN_3.1]
  exact w_iret rfl rfl rfl (hq _ ⟨hN_3, hf_4⟩)
set_option maxRecDepth 20000 in
/-- back(1), not kept -/
theorem x_back_none_1 (d : Nat) (kb : Nat) (st : mSt) (hkb : st.1 0 5 = nI kb) (hk4 : kb < 4) (hbit : ¬ kb.testBit 1 = true) : mMC mT (d + 3) 111 [.ref 0, .int 1] st (some (.int (-2))) st := by
  refine mI_X9_back (d := d + 2) (Nat.le_of_ble_eq_true rfl) (fun Q hq => ?_)
  show mW (mMC mT (d + 2)) (0, fun _ => 0) (mAtL P_X9_back) (some .int) Q 0 [some (.ref 0), some (.int 1), none] [] st
  refine w_blk 2 (pc' := 2) (ls' := [some (.ref 0), some (.int 1), none]) (sk' := [.int 1, .ref 0]) (st' := st) (fun _ h => h) ?_
  refine w_callV (As := [.ref 0, .int 1]) (rest := []) rfl rfl rfl (Nat.le_of_ble_eq_true rfl) (Nat.le_of_ble_eq_true rfl) (by first | exact Or.inl ⟨rfl, rfl⟩ | exact Or.inr ⟨rfl, rfl⟩) (c_imageAt_1 (d + 1) st) ?_
  refine w_blk 5 (pc' := 16) (ls' := [some (.ref 0), some (.int 1), some (.ref 28)]) (sk' := [.int (st.1 0 5)]) (st' := st) (fun _ h => h) ?_
  rw [hkb]
  refine w_blk 1 (pc' := 17) (ls' := [some (.ref 0), some (.int 1), some (.ref 28)]) (sk' := [.int 1, .int (nI kb)]) (st' := st) (fun _ h => h) ?_
  refine w_callS (As := [.int (nI kb), .int 1]) (rest := []) rfl rfl rfl (Nat.le_of_ble_eq_true rfl) (Nat.le_of_ble_eq_true rfl) (c_hasBit (d + 1) (nI kb) 1 st) ?_
  rw [show (pI (bitP (nI kb) 1)) = pI (Nat.testBit kb 1 = true) from pI_cong (bitP_nI (n := kb) (k := 1) (by omega) (by omega))]
  refine w_if_ne rfl (fun hno => absurd hno (not_not_intro (pI_eq0.mpr hbit))) (fun _ => ?_)
  refine w_blk 1 (pc' := 25) (ls' := [some (.ref 0), some (.int 1), some (.ref 28)]) (sk' := [.int (-2)]) (st' := st) (fun _ h => h) ?_
  exact w_iret rfl rfl rfl hq
def pop (b : Nat) : Nat → Nat
  | 0 => 0
  | k + 1 => pop b k + (if b.testBit k = true then 1 else 0)
def tU (st : mSt) (p k : Nat) (t : Int64) : mSt := (st.1, mUL st.2 p k (st.2 p k + t))
theorem mUL_at {f : Nat → Nat → Int64} {p k : Nat} {x : Int64} : mUL f p k x p k = x := by
  unfold mUL
  rw [if_pos rfl]
  exact if_pos rfl
theorem tU_tU {st : mSt} {p k : Nat} {a b : Int64} : tU (tU st p k a) p k b = tU st p k (a + b) := by
  unfold tU
  refine Prod.ext rfl ?_
  funext q j
  show mUL (mUL st.2 p k (st.2 p k + a)) p k (mUL st.2 p k (st.2 p k + a) p k + b) q j = mUL st.2 p k (st.2 p k + (a + b)) q j
  rw [mUL_at, Int64.add_assoc]
  unfold mUL
  by_cases hq : q = p
  · rw [if_pos hq, if_pos hq]
    by_cases hj : j = k
    · subst hj
      rw [pk_uLs, pk_uLs]
    · rw [pk_uLn hj, pk_uLn hj, if_pos rfl, pk_uLn hj]
  · rw [if_neg hq, if_neg hq, if_neg hq]
theorem tU_fr {st : mSt} {p k : Nat} {t : Int64} : (tU st p k t).1 = st.1 ∧ (∀ q, q ≠ p → (tU st p k t).2 q = st.2 q) ∧ (tU st p k t).2 p k = st.2 p k + t := ⟨rfl, fun q h => mUL_ne (fun e => h e), mUL_at⟩
def bcF (x : Int32) : Int32 := ((((((((x - (((Int32.toUInt32 x >>> (Int32.toUInt32 1 &&& Int32.toUInt32 31)).toInt32) &&& 1431655765)) &&& 858993459) + (((Int32.toUInt32 (x - (((Int32.toUInt32 x >>> (Int32.toUInt32 1 &&& Int32.toUInt32 31)).toInt32) &&& 1431655765)) >>> (Int32.toUInt32 2 &&& Int32.toUInt32 31)).toInt32) &&& 858993459)) + ((Int32.toUInt32 (((x - (((Int32.toUInt32 x >>> (Int32.toUInt32 1 &&& Int32.toUInt32 31)).toInt32) &&& 1431655765)) &&& 858993459) + (((Int32.toUInt32 (x - (((Int32.toUInt32 x >>> (Int32.toUInt32 1 &&& Int32.toUInt32 31)).toInt32) &&& 1431655765)) >>> (Int32.toUInt32 2 &&& Int32.toUInt32 31)).toInt32) &&& 858993459)) >>> (Int32.toUInt32 4 &&& Int32.toUInt32 31)).toInt32)) &&& 252645135) + ((Int32.toUInt32 (((((x - (((Int32.toUInt32 x >>> (Int32.toUInt32 1 &&& Int32.toUInt32 31)).toInt32) &&& 1431655765)) &&& 858993459) + (((Int32.toUInt32 (x - (((Int32.toUInt32 x >>> (Int32.toUInt32 1 &&& Int32.toUInt32 31)).toInt32) &&& 1431655765)) >>> (Int32.toUInt32 2 &&& Int32.toUInt32 31)).toInt32) &&& 858993459)) + ((Int32.toUInt32 (((x - (((Int32.toUInt32 x >>> (Int32.toUInt32 1 &&& Int32.toUInt32 31)).toInt32) &&& 1431655765)) &&& 858993459) + (((Int32.toUInt32 (x - (((Int32.toUInt32 x >>> (Int32.toUInt32 1 &&& Int32.toUInt32 31)).toInt32) &&& 1431655765)) >>> (Int32.toUInt32 2 &&& Int32.toUInt32 31)).toInt32) &&& 858993459)) >>> (Int32.toUInt32 4 &&& Int32.toUInt32 31)).toInt32)) &&& 252645135) >>> (Int32.toUInt32 8 &&& Int32.toUInt32 31)).toInt32)) + ((Int32.toUInt32 ((((((x - (((Int32.toUInt32 x >>> (Int32.toUInt32 1 &&& Int32.toUInt32 31)).toInt32) &&& 1431655765)) &&& 858993459) + (((Int32.toUInt32 (x - (((Int32.toUInt32 x >>> (Int32.toUInt32 1 &&& Int32.toUInt32 31)).toInt32) &&& 1431655765)) >>> (Int32.toUInt32 2 &&& Int32.toUInt32 31)).toInt32) &&& 858993459)) + ((Int32.toUInt32 (((x - (((Int32.toUInt32 x >>> (Int32.toUInt32 1 &&& Int32.toUInt32 31)).toInt32) &&& 1431655765)) &&& 858993459) + (((Int32.toUInt32 (x - (((Int32.toUInt32 x >>> (Int32.toUInt32 1 &&& Int32.toUInt32 31)).toInt32) &&& 1431655765)) >>> (Int32.toUInt32 2 &&& Int32.toUInt32 31)).toInt32) &&& 858993459)) >>> (Int32.toUInt32 4 &&& Int32.toUInt32 31)).toInt32)) &&& 252645135) + ((Int32.toUInt32 (((((x - (((Int32.toUInt32 x >>> (Int32.toUInt32 1 &&& Int32.toUInt32 31)).toInt32) &&& 1431655765)) &&& 858993459) + (((Int32.toUInt32 (x - (((Int32.toUInt32 x >>> (Int32.toUInt32 1 &&& Int32.toUInt32 31)).toInt32) &&& 1431655765)) >>> (Int32.toUInt32 2 &&& Int32.toUInt32 31)).toInt32) &&& 858993459)) + ((Int32.toUInt32 (((x - (((Int32.toUInt32 x >>> (Int32.toUInt32 1 &&& Int32.toUInt32 31)).toInt32) &&& 1431655765)) &&& 858993459) + (((Int32.toUInt32 (x - (((Int32.toUInt32 x >>> (Int32.toUInt32 1 &&& Int32.toUInt32 31)).toInt32) &&& 1431655765)) >>> (Int32.toUInt32 2 &&& Int32.toUInt32 31)).toInt32) &&& 858993459)) >>> (Int32.toUInt32 4 &&& Int32.toUInt32 31)).toInt32)) &&& 252645135) >>> (Int32.toUInt32 8 &&& Int32.toUInt32 31)).toInt32)) >>> (Int32.toUInt32 16 &&& Int32.toUInt32 31)).toInt32)) &&& 63)
set_option maxRecDepth 20000 in
/-- Integer.bitCount -/
theorem c_bitCount (d : Nat) (x : Int32) (st : mSt) : mMC mT (d + 1) 0 [.int x] st (some (.int (bcF x))) st := by
  refine mI_J6_bitCount_0f7a4 (d := d + 0) (Nat.le_of_ble_eq_true rfl) (fun Q hq => ?_)
  show mW (mMC mT (d + 0)) (0, fun _ => 0) (mAtL P_J6_bitCount_0f7a4) (some .int) Q 0 [some (.int x)] [] st
  refine w_blk 41 (pc' := 52) (ls' := [some (.int (((((((x - (((Int32.toUInt32 x >>> (Int32.toUInt32 1 &&& Int32.toUInt32 31)).toInt32) &&& 1431655765)) &&& 858993459) + (((Int32.toUInt32 (x - (((Int32.toUInt32 x >>> (Int32.toUInt32 1 &&& Int32.toUInt32 31)).toInt32) &&& 1431655765)) >>> (Int32.toUInt32 2 &&& Int32.toUInt32 31)).toInt32) &&& 858993459)) + ((Int32.toUInt32 (((x - (((Int32.toUInt32 x >>> (Int32.toUInt32 1 &&& Int32.toUInt32 31)).toInt32) &&& 1431655765)) &&& 858993459) + (((Int32.toUInt32 (x - (((Int32.toUInt32 x >>> (Int32.toUInt32 1 &&& Int32.toUInt32 31)).toInt32) &&& 1431655765)) >>> (Int32.toUInt32 2 &&& Int32.toUInt32 31)).toInt32) &&& 858993459)) >>> (Int32.toUInt32 4 &&& Int32.toUInt32 31)).toInt32)) &&& 252645135) + ((Int32.toUInt32 (((((x - (((Int32.toUInt32 x >>> (Int32.toUInt32 1 &&& Int32.toUInt32 31)).toInt32) &&& 1431655765)) &&& 858993459) + (((Int32.toUInt32 (x - (((Int32.toUInt32 x >>> (Int32.toUInt32 1 &&& Int32.toUInt32 31)).toInt32) &&& 1431655765)) >>> (Int32.toUInt32 2 &&& Int32.toUInt32 31)).toInt32) &&& 858993459)) + ((Int32.toUInt32 (((x - (((Int32.toUInt32 x >>> (Int32.toUInt32 1 &&& Int32.toUInt32 31)).toInt32) &&& 1431655765)) &&& 858993459) + (((Int32.toUInt32 (x - (((Int32.toUInt32 x >>> (Int32.toUInt32 1 &&& Int32.toUInt32 31)).toInt32) &&& 1431655765)) >>> (Int32.toUInt32 2 &&& Int32.toUInt32 31)).toInt32) &&& 858993459)) >>> (Int32.toUInt32 4 &&& Int32.toUInt32 31)).toInt32)) &&& 252645135) >>> (Int32.toUInt32 8 &&& Int32.toUInt32 31)).toInt32)) + ((Int32.toUInt32 ((((((x - (((Int32.toUInt32 x >>> (Int32.toUInt32 1 &&& Int32.toUInt32 31)).toInt32) &&& 1431655765)) &&& 858993459) + (((Int32.toUInt32 (x - (((Int32.toUInt32 x >>> (Int32.toUInt32 1 &&& Int32.toUInt32 31)).toInt32) &&& 1431655765)) >>> (Int32.toUInt32 2 &&& Int32.toUInt32 31)).toInt32) &&& 858993459)) + ((Int32.toUInt32 (((x - (((Int32.toUInt32 x >>> (Int32.toUInt32 1 &&& Int32.toUInt32 31)).toInt32) &&& 1431655765)) &&& 858993459) + (((Int32.toUInt32 (x - (((Int32.toUInt32 x >>> (Int32.toUInt32 1 &&& Int32.toUInt32 31)).toInt32) &&& 1431655765)) >>> (Int32.toUInt32 2 &&& Int32.toUInt32 31)).toInt32) &&& 858993459)) >>> (Int32.toUInt32 4 &&& Int32.toUInt32 31)).toInt32)) &&& 252645135) + ((Int32.toUInt32 (((((x - (((Int32.toUInt32 x >>> (Int32.toUInt32 1 &&& Int32.toUInt32 31)).toInt32) &&& 1431655765)) &&& 858993459) + (((Int32.toUInt32 (x - (((Int32.toUInt32 x >>> (Int32.toUInt32 1 &&& Int32.toUInt32 31)).toInt32) &&& 1431655765)) >>> (Int32.toUInt32 2 &&& Int32.toUInt32 31)).toInt32) &&& 858993459)) + ((Int32.toUInt32 (((x - (((Int32.toUInt32 x >>> (Int32.toUInt32 1 &&& Int32.toUInt32 31)).toInt32) &&& 1431655765)) &&& 858993459) + (((Int32.toUInt32 (x - (((Int32.toUInt32 x >>> (Int32.toUInt32 1 &&& Int32.toUInt32 31)).toInt32) &&& 1431655765)) >>> (Int32.toUInt32 2 &&& Int32.toUInt32 31)).toInt32) &&& 858993459)) >>> (Int32.toUInt32 4 &&& Int32.toUInt32 31)).toInt32)) &&& 252645135) >>> (Int32.toUInt32 8 &&& Int32.toUInt32 31)).toInt32)) >>> (Int32.toUInt32 16 &&& Int32.toUInt32 31)).toInt32)))]) (sk' := [.int ((((((((x - (((Int32.toUInt32 x >>> (Int32.toUInt32 1 &&& Int32.toUInt32 31)).toInt32) &&& 1431655765)) &&& 858993459) + (((Int32.toUInt32 (x - (((Int32.toUInt32 x >>> (Int32.toUInt32 1 &&& Int32.toUInt32 31)).toInt32) &&& 1431655765)) >>> (Int32.toUInt32 2 &&& Int32.toUInt32 31)).toInt32) &&& 858993459)) + ((Int32.toUInt32 (((x - (((Int32.toUInt32 x >>> (Int32.toUInt32 1 &&& Int32.toUInt32 31)).toInt32) &&& 1431655765)) &&& 858993459) + (((Int32.toUInt32 (x - (((Int32.toUInt32 x >>> (Int32.toUInt32 1 &&& Int32.toUInt32 31)).toInt32) &&& 1431655765)) >>> (Int32.toUInt32 2 &&& Int32.toUInt32 31)).toInt32) &&& 858993459)) >>> (Int32.toUInt32 4 &&& Int32.toUInt32 31)).toInt32)) &&& 252645135) + ((Int32.toUInt32 (((((x - (((Int32.toUInt32 x >>> (Int32.toUInt32 1 &&& Int32.toUInt32 31)).toInt32) &&& 1431655765)) &&& 858993459) + (((Int32.toUInt32 (x - (((Int32.toUInt32 x >>> (Int32.toUInt32 1 &&& Int32.toUInt32 31)).toInt32) &&& 1431655765)) >>> (Int32.toUInt32 2 &&& Int32.toUInt32 31)).toInt32) &&& 858993459)) + ((Int32.toUInt32 (((x - (((Int32.toUInt32 x >>> (Int32.toUInt32 1 &&& Int32.toUInt32 31)).toInt32) &&& 1431655765)) &&& 858993459) + (((Int32.toUInt32 (x - (((Int32.toUInt32 x >>> (Int32.toUInt32 1 &&& Int32.toUInt32 31)).toInt32) &&& 1431655765)) >>> (Int32.toUInt32 2 &&& Int32.toUInt32 31)).toInt32) &&& 858993459)) >>> (Int32.toUInt32 4 &&& Int32.toUInt32 31)).toInt32)) &&& 252645135) >>> (Int32.toUInt32 8 &&& Int32.toUInt32 31)).toInt32)) + ((Int32.toUInt32 ((((((x - (((Int32.toUInt32 x >>> (Int32.toUInt32 1 &&& Int32.toUInt32 31)).toInt32) &&& 1431655765)) &&& 858993459) + (((Int32.toUInt32 (x - (((Int32.toUInt32 x >>> (Int32.toUInt32 1 &&& Int32.toUInt32 31)).toInt32) &&& 1431655765)) >>> (Int32.toUInt32 2 &&& Int32.toUInt32 31)).toInt32) &&& 858993459)) + ((Int32.toUInt32 (((x - (((Int32.toUInt32 x >>> (Int32.toUInt32 1 &&& Int32.toUInt32 31)).toInt32) &&& 1431655765)) &&& 858993459) + (((Int32.toUInt32 (x - (((Int32.toUInt32 x >>> (Int32.toUInt32 1 &&& Int32.toUInt32 31)).toInt32) &&& 1431655765)) >>> (Int32.toUInt32 2 &&& Int32.toUInt32 31)).toInt32) &&& 858993459)) >>> (Int32.toUInt32 4 &&& Int32.toUInt32 31)).toInt32)) &&& 252645135) + ((Int32.toUInt32 (((((x - (((Int32.toUInt32 x >>> (Int32.toUInt32 1 &&& Int32.toUInt32 31)).toInt32) &&& 1431655765)) &&& 858993459) + (((Int32.toUInt32 (x - (((Int32.toUInt32 x >>> (Int32.toUInt32 1 &&& Int32.toUInt32 31)).toInt32) &&& 1431655765)) >>> (Int32.toUInt32 2 &&& Int32.toUInt32 31)).toInt32) &&& 858993459)) + ((Int32.toUInt32 (((x - (((Int32.toUInt32 x >>> (Int32.toUInt32 1 &&& Int32.toUInt32 31)).toInt32) &&& 1431655765)) &&& 858993459) + (((Int32.toUInt32 (x - (((Int32.toUInt32 x >>> (Int32.toUInt32 1 &&& Int32.toUInt32 31)).toInt32) &&& 1431655765)) >>> (Int32.toUInt32 2 &&& Int32.toUInt32 31)).toInt32) &&& 858993459)) >>> (Int32.toUInt32 4 &&& Int32.toUInt32 31)).toInt32)) &&& 252645135) >>> (Int32.toUInt32 8 &&& Int32.toUInt32 31)).toInt32)) >>> (Int32.toUInt32 16 &&& Int32.toUInt32 31)).toInt32)) &&& 63)]) (st' := st) (fun _ h => h) ?_
  exact w_iret rfl rfl rfl hq
theorem bcF_nI : ∀ k, k < 256 → bcF (nI k) = nI (pop k 8) := by decide +kernel
theorem c_bitCountK (d k : Nat) (st : mSt) (hk : k < 256) : mMC mT (d + 1) 0 [.int (nI k)] st (some (.int (nI (pop k 8)))) st := by
  have h := c_bitCount d (nI k) st
  rw [bcF_nI k hk] at h
  exact h
theorem tU_add {st : mSt} {p k : Nat} {a b e : Int64} (h : a + b = e) : tU (tU st p k a) p k b = tU st p k e := by rw [tU_tU, h]
set_option maxRecDepth 20000 in
/-- mark, Person -/
theorem x_markPerson_5 (d : Nat) (n : Nat → Nat) (c : Nat → Nat → Nat) (v : Nat → Int32) (u : Nat → Nat) (yd : Nat) (k : Nat) (st : mSt) (hcw : st.1 0 1 = nI 5) (hX : X5 st n c) (hB : CB n c) (hN : N21 st v u yd) (hU : ∀ j, 3 ≤ j → j < 12 → u j < 256) (hk : k < n 0) : mMC mT (d + 2) 115 [.ref 0, .int (nI k)] st (some (.int (nI (c 0 k)))) (tU st 0 12 1) := by
  refine mI_X9_markAsPerson (d := d + 1) (Nat.le_of_ble_eq_true rfl) (fun Q hq => ?_)
  show mW (mMC mT (d + 1)) (0, fun _ => 0) (mAtL P_X9_markAsPerson) (some .int) Q 0 [some (.ref 0), some (.int (nI k))] [] st
  have hcr : (st.1 0 1).toNatClampNeg = 5 := by rw [hcw]; rfl
  obtain ⟨hb0, hb1, hb2, hbd, hbs, hby⟩ := id hB
  refine w_blk 7 (pc' := 11) (ls' := [some (.ref 0), some (.int (nI k))]) (sk' := [.ref 0]) (st' := (st.1, (mUL st.2 0 12 ((st.2 0 12) + 1)))) (fun _ h => h) ?_
  refine w_blk 1 (pc' := 14) (ls' := [some (.ref 0), some (.int (nI k))]) (sk' := [.ref (Int32.toNatClampNeg (st.1 0 1))]) (st' := (st.1, (mUL st.2 0 12 ((st.2 0 12) + 1)))) (fun _ h => h) ?_
  rw [show Int32.toNatClampNeg (st.1 0 1) = 5 from hcr]
  refine w_blk 2 (pc' := 18) (ls' := [some (.ref 0), some (.int (nI k))]) (sk' := [.int (nI k), .ref 6]) (st' := (st.1, (mUL st.2 0 12 ((st.2 0 12) + 1)))) (fun _ h => h) ?_
  refine w_callS (As := [.ref 6, .int (nI k)]) (rest := []) rfl rfl rfl (Nat.le_of_ble_eq_true rfl) (Nat.le_of_ble_eq_true rfl) (c_cellK (d + 0) 6 6 k (st.1, (mUL st.2 0 12 ((st.2 0 12) + 1))) (by omega) (by decide) rfl) ?_
  rw [(hX.2.2.2.1 k (by omega)).1]
  exact w_iret rfl rfl rfl hq
set_option maxRecDepth 20000 in
/-- mark, Person -/
theorem x_markPerson_13 (d : Nat) (n : Nat → Nat) (c : Nat → Nat → Nat) (v : Nat → Int32) (u : Nat → Nat) (yd : Nat) (k : Nat) (st : mSt) (hcw : st.1 0 1 = nI 13) (hX : X13 st n c) (hB : CB n c) (hN : N21 st v u yd) (hU : ∀ j, 3 ≤ j → j < 12 → u j < 256) (hk : k < n 0) : mMC mT (d + 2) 115 [.ref 0, .int (nI k)] st (some (.int (nI (c 0 k)))) (tU st 0 12 1) := by
  refine mI_X9_markAsPerson (d := d + 1) (Nat.le_of_ble_eq_true rfl) (fun Q hq => ?_)
  show mW (mMC mT (d + 1)) (0, fun _ => 0) (mAtL P_X9_markAsPerson) (some .int) Q 0 [some (.ref 0), some (.int (nI k))] [] st
  have hcr : (st.1 0 1).toNatClampNeg = 13 := by rw [hcw]; rfl
  obtain ⟨hb0, hb1, hb2, hbd, hbs, hby⟩ := id hB
  refine w_blk 7 (pc' := 11) (ls' := [some (.ref 0), some (.int (nI k))]) (sk' := [.ref 0]) (st' := (st.1, (mUL st.2 0 12 ((st.2 0 12) + 1)))) (fun _ h => h) ?_
  refine w_blk 1 (pc' := 14) (ls' := [some (.ref 0), some (.int (nI k))]) (sk' := [.ref (Int32.toNatClampNeg (st.1 0 1))]) (st' := (st.1, (mUL st.2 0 12 ((st.2 0 12) + 1)))) (fun _ h => h) ?_
  rw [show Int32.toNatClampNeg (st.1 0 1) = 13 from hcr]
  refine w_blk 2 (pc' := 18) (ls' := [some (.ref 0), some (.int (nI k))]) (sk' := [.int (nI k), .ref 14]) (st' := (st.1, (mUL st.2 0 12 ((st.2 0 12) + 1)))) (fun _ h => h) ?_
  refine w_callS (As := [.ref 14, .int (nI k)]) (rest := []) rfl rfl rfl (Nat.le_of_ble_eq_true rfl) (Nat.le_of_ble_eq_true rfl) (c_cellK (d + 0) 14 6 k (st.1, (mUL st.2 0 12 ((st.2 0 12) + 1))) (by omega) (by decide) rfl) ?_
  rw [(hX.2.2.2.1 k (by omega)).1]
  exact w_iret rfl rfl rfl hq
set_option maxRecDepth 20000 in
/-- mark, Digger -/
theorem x_markDigger_5 (d : Nat) (n : Nat → Nat) (c : Nat → Nat → Nat) (v : Nat → Int32) (u : Nat → Nat) (yd : Nat) (k : Nat) (st : mSt) (hcw : st.1 0 1 = nI 5) (hX : X5 st n c) (hB : CB n c) (hN : N21 st v u yd) (hU : ∀ j, 3 ≤ j → j < 12 → u j < 256) (hk : k < n 0) : mMC mT (d + 3) 116 [.ref 0, .int (nI k)] st (some (.int (nI (c 0 k + pop (u (6 + k)) 8)))) (tU st 0 12 11) := by
  refine mI_X9_markAsDigger (d := d + 2) (Nat.le_of_ble_eq_true rfl) (fun Q hq => ?_)
  show mW (mMC mT (d + 2)) (0, fun _ => 0) (mAtL P_X9_markAsDigger) (some .int) Q 0 [some (.ref 0), some (.int (nI k))] [] st
  have hcr : (st.1 0 1).toNatClampNeg = 5 := by rw [hcw]; rfl
  obtain ⟨hb0, hb1, hb2, hbd, hbs, hby⟩ := id hB
  refine w_blk 8 (pc' := 14) (ls' := [some (.ref 0), some (.int (nI k))]) (sk' := [.int (nI k), .ref 0]) (st' := (st.1, (mUL st.2 0 12 ((st.2 0 12) + 10)))) (fun _ h => h) ?_
  have hsub := x_markPerson_5 (d + 0) n c v u yd k (tU st 0 12 10) hcw hX hB hN hU hk
  rw [tU_add (e := 11) (by decide)] at hsub
  refine w_callV (As := [.ref 0, .int (nI k)]) (rest := []) rfl rfl rfl (Nat.le_of_ble_eq_true rfl) (Nat.le_of_ble_eq_true rfl) (by first | exact Or.inl ⟨rfl, rfl⟩ | exact Or.inr ⟨rfl, rfl⟩) hsub ?_
  refine w_blk 4 (pc' := 25) (ls' := [some (.ref 0), some (.int (nI k))]) (sk' := [.int (nI k), .ref 22, .int (nI (c 0 k))]) (st' := (tU st 0 12 11)) (fun _ h => h) ?_
  refine w_callS (As := [.ref 22, .int (nI k)]) (rest := [.int (nI (c 0 k))]) rfl rfl rfl (Nat.le_of_ble_eq_true rfl) (Nat.le_of_ble_eq_true rfl) (c_cellK (d + 1) 22 6 k (tU st 0 12 11) (by omega) (by decide) rfl) ?_
  rw [show ((tU st 0 12 11).1 22 k) = (nI (u (6 + k))) from hN.2.2.2.2.2.2.2.1 k (by omega)]
  refine w_callS (As := [.int (nI (u (6 + k)))]) (rest := [.int (nI (c 0 k))]) rfl rfl rfl (Nat.le_of_ble_eq_true rfl) (Nat.le_of_ble_eq_true rfl) (c_bitCountK (d + 1) (u (6 + k)) (tU st 0 12 11) (hU (6 + k) (by omega) (by omega))) ?_
  refine w_blk 1 (pc' := 32) (ls' := [some (.ref 0), some (.int (nI k))]) (sk' := [.int ((nI (c 0 k)) + (nI (pop (u (6 + k)) 8)))]) (st' := (tU st 0 12 11)) (fun _ h => h) ?_
  rw [show ((nI (c 0 k)) + (nI (pop (u (6 + k)) 8))) = nI ((c 0 k) + (pop (u (6 + k)) 8)) from nI_add (c 0 k) (pop (u (6 + k)) 8)]
  exact w_iret rfl rfl rfl hq
set_option maxRecDepth 20000 in
/-- mark, Digger -/
theorem x_markDigger_13 (d : Nat) (n : Nat → Nat) (c : Nat → Nat → Nat) (v : Nat → Int32) (u : Nat → Nat) (yd : Nat) (k : Nat) (st : mSt) (hcw : st.1 0 1 = nI 13) (hX : X13 st n c) (hB : CB n c) (hN : N21 st v u yd) (hU : ∀ j, 3 ≤ j → j < 12 → u j < 256) (hk : k < n 0) : mMC mT (d + 3) 116 [.ref 0, .int (nI k)] st (some (.int (nI (c 0 k + pop (u (6 + k)) 8)))) (tU st 0 12 11) := by
  refine mI_X9_markAsDigger (d := d + 2) (Nat.le_of_ble_eq_true rfl) (fun Q hq => ?_)
  show mW (mMC mT (d + 2)) (0, fun _ => 0) (mAtL P_X9_markAsDigger) (some .int) Q 0 [some (.ref 0), some (.int (nI k))] [] st
  have hcr : (st.1 0 1).toNatClampNeg = 13 := by rw [hcw]; rfl
  obtain ⟨hb0, hb1, hb2, hbd, hbs, hby⟩ := id hB
  refine w_blk 8 (pc' := 14) (ls' := [some (.ref 0), some (.int (nI k))]) (sk' := [.int (nI k), .ref 0]) (st' := (st.1, (mUL st.2 0 12 ((st.2 0 12) + 10)))) (fun _ h => h) ?_
  have hsub := x_markPerson_13 (d + 0) n c v u yd k (tU st 0 12 10) hcw hX hB hN hU hk
  rw [tU_add (e := 11) (by decide)] at hsub
  refine w_callV (As := [.ref 0, .int (nI k)]) (rest := []) rfl rfl rfl (Nat.le_of_ble_eq_true rfl) (Nat.le_of_ble_eq_true rfl) (by first | exact Or.inl ⟨rfl, rfl⟩ | exact Or.inr ⟨rfl, rfl⟩) hsub ?_
  refine w_blk 4 (pc' := 25) (ls' := [some (.ref 0), some (.int (nI k))]) (sk' := [.int (nI k), .ref 22, .int (nI (c 0 k))]) (st' := (tU st 0 12 11)) (fun _ h => h) ?_
  refine w_callS (As := [.ref 22, .int (nI k)]) (rest := [.int (nI (c 0 k))]) rfl rfl rfl (Nat.le_of_ble_eq_true rfl) (Nat.le_of_ble_eq_true rfl) (c_cellK (d + 1) 22 6 k (tU st 0 12 11) (by omega) (by decide) rfl) ?_
  rw [show ((tU st 0 12 11).1 22 k) = (nI (u (6 + k))) from hN.2.2.2.2.2.2.2.1 k (by omega)]
  refine w_callS (As := [.int (nI (u (6 + k)))]) (rest := [.int (nI (c 0 k))]) rfl rfl rfl (Nat.le_of_ble_eq_true rfl) (Nat.le_of_ble_eq_true rfl) (c_bitCountK (d + 1) (u (6 + k)) (tU st 0 12 11) (hU (6 + k) (by omega) (by omega))) ?_
  refine w_blk 1 (pc' := 32) (ls' := [some (.ref 0), some (.int (nI k))]) (sk' := [.int ((nI (c 0 k)) + (nI (pop (u (6 + k)) 8)))]) (st' := (tU st 0 12 11)) (fun _ h => h) ?_
  rw [show ((nI (c 0 k)) + (nI (pop (u (6 + k)) 8))) = nI ((c 0 k) + (pop (u (6 + k)) 8)) from nI_add (c 0 k) (pop (u (6 + k)) 8)]
  exact w_iret rfl rfl rfl hq
set_option maxRecDepth 20000 in
/-- mark, Singer -/
theorem x_markSinger_5 (d : Nat) (n : Nat → Nat) (c : Nat → Nat → Nat) (v : Nat → Int32) (u : Nat → Nat) (yd : Nat) (k : Nat) (st : mSt) (hcw : st.1 0 1 = nI 5) (hX : X5 st n c) (hB : CB n c) (hN : N21 st v u yd) (hU : ∀ j, 3 ≤ j → j < 12 → u j < 256) (hk : k < n 0) : mMC mT (d + 3) 117 [.ref 0, .int (nI k)] st (some (.int (nI (c 0 k) + v 0))) (tU st 0 12 101) := by
  refine mI_X9_markAsSinger (d := d + 2) (Nat.le_of_ble_eq_true rfl) (fun Q hq => ?_)
  show mW (mMC mT (d + 2)) (0, fun _ => 0) (mAtL P_X9_markAsSinger) (some .int) Q 0 [some (.ref 0), some (.int (nI k))] [] st
  have hcr : (st.1 0 1).toNatClampNeg = 5 := by rw [hcw]; rfl
  obtain ⟨hb0, hb1, hb2, hbd, hbs, hby⟩ := id hB
  refine w_blk 8 (pc' := 14) (ls' := [some (.ref 0), some (.int (nI k))]) (sk' := [.int (nI k), .ref 0]) (st' := (st.1, (mUL st.2 0 12 ((st.2 0 12) + 100)))) (fun _ h => h) ?_
  have hsub := x_markPerson_5 (d + 0) n c v u yd k (tU st 0 12 100) hcw hX hB hN hU hk
  rw [tU_add (e := 101) (by decide)] at hsub
  refine w_callV (As := [.ref 0, .int (nI k)]) (rest := []) rfl rfl rfl (Nat.le_of_ble_eq_true rfl) (Nat.le_of_ble_eq_true rfl) (by first | exact Or.inl ⟨rfl, rfl⟩ | exact Or.inr ⟨rfl, rfl⟩) hsub ?_
  refine w_blk 3 (pc' := 24) (ls' := [some (.ref 0), some (.int (nI k))]) (sk' := [.int ((tU st 0 12 101).1 21 0), .int (nI (c 0 k))]) (st' := (tU st 0 12 101)) (fun _ h => h) ?_
  rw [show ((tU st 0 12 101).1 21 0) = (v 0) from hN.1]
  refine w_blk 1 (pc' := 25) (ls' := [some (.ref 0), some (.int (nI k))]) (sk' := [.int ((nI (c 0 k)) + (v 0))]) (st' := (tU st 0 12 101)) (fun _ h => h) ?_
  exact w_iret rfl rfl rfl hq
set_option maxRecDepth 20000 in
/-- mark, Singer -/
theorem x_markSinger_13 (d : Nat) (n : Nat → Nat) (c : Nat → Nat → Nat) (v : Nat → Int32) (u : Nat → Nat) (yd : Nat) (k : Nat) (st : mSt) (hcw : st.1 0 1 = nI 13) (hX : X13 st n c) (hB : CB n c) (hN : N21 st v u yd) (hU : ∀ j, 3 ≤ j → j < 12 → u j < 256) (hk : k < n 0) : mMC mT (d + 3) 117 [.ref 0, .int (nI k)] st (some (.int (nI (c 0 k) + v 0))) (tU st 0 12 101) := by
  refine mI_X9_markAsSinger (d := d + 2) (Nat.le_of_ble_eq_true rfl) (fun Q hq => ?_)
  show mW (mMC mT (d + 2)) (0, fun _ => 0) (mAtL P_X9_markAsSinger) (some .int) Q 0 [some (.ref 0), some (.int (nI k))] [] st
  have hcr : (st.1 0 1).toNatClampNeg = 13 := by rw [hcw]; rfl
  obtain ⟨hb0, hb1, hb2, hbd, hbs, hby⟩ := id hB
  refine w_blk 8 (pc' := 14) (ls' := [some (.ref 0), some (.int (nI k))]) (sk' := [.int (nI k), .ref 0]) (st' := (st.1, (mUL st.2 0 12 ((st.2 0 12) + 100)))) (fun _ h => h) ?_
  have hsub := x_markPerson_13 (d + 0) n c v u yd k (tU st 0 12 100) hcw hX hB hN hU hk
  rw [tU_add (e := 101) (by decide)] at hsub
  refine w_callV (As := [.ref 0, .int (nI k)]) (rest := []) rfl rfl rfl (Nat.le_of_ble_eq_true rfl) (Nat.le_of_ble_eq_true rfl) (by first | exact Or.inl ⟨rfl, rfl⟩ | exact Or.inr ⟨rfl, rfl⟩) hsub ?_
  refine w_blk 3 (pc' := 24) (ls' := [some (.ref 0), some (.int (nI k))]) (sk' := [.int ((tU st 0 12 101).1 21 0), .int (nI (c 0 k))]) (st' := (tU st 0 12 101)) (fun _ h => h) ?_
  rw [show ((tU st 0 12 101).1 21 0) = (v 0) from hN.1]
  refine w_blk 1 (pc' := 25) (ls' := [some (.ref 0), some (.int (nI k))]) (sk' := [.int ((nI (c 0 k)) + (v 0))]) (st' := (tU st 0 12 101)) (fun _ h => h) ?_
  exact w_iret rfl rfl rfl hq
set_option maxRecDepth 20000 in
/-- mark, Left -/
theorem x_markLeft_5 (d : Nat) (n : Nat → Nat) (c : Nat → Nat → Nat) (v : Nat → Int32) (u : Nat → Nat) (yd : Nat) (k : Nat) (st : mSt) (hcw : st.1 0 1 = nI 5) (hX : X5 st n c) (hB : CB n c) (hN : N21 st v u yd) (hU : ∀ j, 3 ≤ j → j < 12 → u j < 256) (hk : k < n 0) : mMC mT (d + 4) 118 [.ref 0, .int (nI k)] st (some (.int (nI ((c 0 k + pop (u (6 + k)) 8) * 2)))) (tU st 0 12 1011) := by
  refine mI_X9_markAsLeft (d := d + 3) (Nat.le_of_ble_eq_true rfl) (fun Q hq => ?_)
  show mW (mMC mT (d + 3)) (0, fun _ => 0) (mAtL P_X9_markAsLeft) (some .int) Q 0 [some (.ref 0), some (.int (nI k))] [] st
  have hcr : (st.1 0 1).toNatClampNeg = 5 := by rw [hcw]; rfl
  obtain ⟨hb0, hb1, hb2, hbd, hbs, hby⟩ := id hB
  refine w_blk 8 (pc' := 14) (ls' := [some (.ref 0), some (.int (nI k))]) (sk' := [.int (nI k), .ref 0]) (st' := (st.1, (mUL st.2 0 12 ((st.2 0 12) + 1000)))) (fun _ h => h) ?_
  have hsub := x_markDigger_5 (d + 0) n c v u yd k (tU st 0 12 1000) hcw hX hB hN hU hk
  rw [tU_add (e := 1011) (by decide)] at hsub
  refine w_callV (As := [.ref 0, .int (nI k)]) (rest := []) rfl rfl rfl (Nat.le_of_ble_eq_true rfl) (Nat.le_of_ble_eq_true rfl) (by first | exact Or.inl ⟨rfl, rfl⟩ | exact Or.inr ⟨rfl, rfl⟩) hsub ?_
  refine w_blk 2 (pc' := 19) (ls' := [some (.ref 0), some (.int (nI k))]) (sk' := [.int ((nI (c 0 k + pop (u (6 + k)) 8)) * 2)]) (st' := (tU st 0 12 1011)) (fun _ h => h) ?_
  rw [show ((nI (c 0 k + pop (u (6 + k)) 8)) * 2) = nI ((c 0 k + pop (u (6 + k)) 8) * 2) from pk_mul (c 0 k + pop (u (6 + k)) 8) 2]
  exact w_iret rfl rfl rfl hq
set_option maxRecDepth 20000 in
/-- mark, Left -/
theorem x_markLeft_13 (d : Nat) (n : Nat → Nat) (c : Nat → Nat → Nat) (v : Nat → Int32) (u : Nat → Nat) (yd : Nat) (k : Nat) (st : mSt) (hcw : st.1 0 1 = nI 13) (hX : X13 st n c) (hB : CB n c) (hN : N21 st v u yd) (hU : ∀ j, 3 ≤ j → j < 12 → u j < 256) (hk : k < n 0) : mMC mT (d + 4) 118 [.ref 0, .int (nI k)] st (some (.int (nI ((c 0 k + pop (u (6 + k)) 8) * 2)))) (tU st 0 12 1011) := by
  refine mI_X9_markAsLeft (d := d + 3) (Nat.le_of_ble_eq_true rfl) (fun Q hq => ?_)
  show mW (mMC mT (d + 3)) (0, fun _ => 0) (mAtL P_X9_markAsLeft) (some .int) Q 0 [some (.ref 0), some (.int (nI k))] [] st
  have hcr : (st.1 0 1).toNatClampNeg = 13 := by rw [hcw]; rfl
  obtain ⟨hb0, hb1, hb2, hbd, hbs, hby⟩ := id hB
  refine w_blk 8 (pc' := 14) (ls' := [some (.ref 0), some (.int (nI k))]) (sk' := [.int (nI k), .ref 0]) (st' := (st.1, (mUL st.2 0 12 ((st.2 0 12) + 1000)))) (fun _ h => h) ?_
  have hsub := x_markDigger_13 (d + 0) n c v u yd k (tU st 0 12 1000) hcw hX hB hN hU hk
  rw [tU_add (e := 1011) (by decide)] at hsub
  refine w_callV (As := [.ref 0, .int (nI k)]) (rest := []) rfl rfl rfl (Nat.le_of_ble_eq_true rfl) (Nat.le_of_ble_eq_true rfl) (by first | exact Or.inl ⟨rfl, rfl⟩ | exact Or.inr ⟨rfl, rfl⟩) hsub ?_
  refine w_blk 2 (pc' := 19) (ls' := [some (.ref 0), some (.int (nI k))]) (sk' := [.int ((nI (c 0 k + pop (u (6 + k)) 8)) * 2)]) (st' := (tU st 0 12 1011)) (fun _ h => h) ?_
  rw [show ((nI (c 0 k + pop (u (6 + k)) 8)) * 2) = nI ((c 0 k + pop (u (6 + k)) 8) * 2) from pk_mul (c 0 k + pop (u (6 + k)) 8) 2]
  exact w_iret rfl rfl rfl hq
set_option maxRecDepth 20000 in
/-- mark, Prophet -/
theorem x_markProphet_5 (d : Nat) (n : Nat → Nat) (c : Nat → Nat → Nat) (v : Nat → Int32) (u : Nat → Nat) (yd : Nat) (k : Nat) (st : mSt) (hcw : st.1 0 1 = nI 5) (hX : X5 st n c) (hB : CB n c) (hN : N21 st v u yd) (hU : ∀ j, 3 ≤ j → j < 12 → u j < 256) (hk : k < n 0) : mMC mT (d + 4) 119 [.ref 0, .int (nI k)] st (some (.int (nI (c 0 k) + v 0 - nI (pop (u 5) 8)))) (tU st 0 12 10101) := by
  refine mI_X9_markAsProphet (d := d + 3) (Nat.le_of_ble_eq_true rfl) (fun Q hq => ?_)
  show mW (mMC mT (d + 3)) (0, fun _ => 0) (mAtL P_X9_markAsProphet) (some .int) Q 0 [some (.ref 0), some (.int (nI k))] [] st
  have hcr : (st.1 0 1).toNatClampNeg = 5 := by rw [hcw]; rfl
  obtain ⟨hb0, hb1, hb2, hbd, hbs, hby⟩ := id hB
  refine w_blk 8 (pc' := 14) (ls' := [some (.ref 0), some (.int (nI k))]) (sk' := [.int (nI k), .ref 0]) (st' := (st.1, (mUL st.2 0 12 ((st.2 0 12) + 10000)))) (fun _ h => h) ?_
  have hsub := x_markSinger_5 (d + 0) n c v u yd k (tU st 0 12 10000) hcw hX hB hN hU hk
  rw [tU_add (e := 10101) (by decide)] at hsub
  refine w_callV (As := [.ref 0, .int (nI k)]) (rest := []) rfl rfl rfl (Nat.le_of_ble_eq_true rfl) (Nat.le_of_ble_eq_true rfl) (by first | exact Or.inl ⟨rfl, rfl⟩ | exact Or.inr ⟨rfl, rfl⟩) hsub ?_
  refine w_blk 3 (pc' := 24) (ls' := [some (.ref 0), some (.int (nI k))]) (sk' := [.int ((tU st 0 12 10101).1 21 6), .int (nI (c 0 k) + v 0)]) (st' := (tU st 0 12 10101)) (fun _ h => h) ?_
  rw [show ((tU st 0 12 10101).1 21 6) = (nI (u 5)) from hN.2.2.2.2.2.2.1]
  refine w_callS (As := [.int (nI (u 5))]) (rest := [.int (nI (c 0 k) + v 0)]) rfl rfl rfl (Nat.le_of_ble_eq_true rfl) (Nat.le_of_ble_eq_true rfl) (c_bitCountK (d + 2) (u 5) (tU st 0 12 10101) (hU 5 (by omega) (by omega))) ?_
  refine w_blk 1 (pc' := 28) (ls' := [some (.ref 0), some (.int (nI k))]) (sk' := [.int ((nI (c 0 k) + v 0) - (nI (pop (u 5) 8)))]) (st' := (tU st 0 12 10101)) (fun _ h => h) ?_
  exact w_iret rfl rfl rfl hq
set_option maxRecDepth 20000 in
/-- mark, Prophet -/
theorem x_markProphet_13 (d : Nat) (n : Nat → Nat) (c : Nat → Nat → Nat) (v : Nat → Int32) (u : Nat → Nat) (yd : Nat) (k : Nat) (st : mSt) (hcw : st.1 0 1 = nI 13) (hX : X13 st n c) (hB : CB n c) (hN : N21 st v u yd) (hU : ∀ j, 3 ≤ j → j < 12 → u j < 256) (hk : k < n 0) : mMC mT (d + 4) 119 [.ref 0, .int (nI k)] st (some (.int (nI (c 0 k) + v 0 - nI (pop (u 5) 8)))) (tU st 0 12 10101) := by
  refine mI_X9_markAsProphet (d := d + 3) (Nat.le_of_ble_eq_true rfl) (fun Q hq => ?_)
  show mW (mMC mT (d + 3)) (0, fun _ => 0) (mAtL P_X9_markAsProphet) (some .int) Q 0 [some (.ref 0), some (.int (nI k))] [] st
  have hcr : (st.1 0 1).toNatClampNeg = 13 := by rw [hcw]; rfl
  obtain ⟨hb0, hb1, hb2, hbd, hbs, hby⟩ := id hB
  refine w_blk 8 (pc' := 14) (ls' := [some (.ref 0), some (.int (nI k))]) (sk' := [.int (nI k), .ref 0]) (st' := (st.1, (mUL st.2 0 12 ((st.2 0 12) + 10000)))) (fun _ h => h) ?_
  have hsub := x_markSinger_13 (d + 0) n c v u yd k (tU st 0 12 10000) hcw hX hB hN hU hk
  rw [tU_add (e := 10101) (by decide)] at hsub
  refine w_callV (As := [.ref 0, .int (nI k)]) (rest := []) rfl rfl rfl (Nat.le_of_ble_eq_true rfl) (Nat.le_of_ble_eq_true rfl) (by first | exact Or.inl ⟨rfl, rfl⟩ | exact Or.inr ⟨rfl, rfl⟩) hsub ?_
  refine w_blk 3 (pc' := 24) (ls' := [some (.ref 0), some (.int (nI k))]) (sk' := [.int ((tU st 0 12 10101).1 21 6), .int (nI (c 0 k) + v 0)]) (st' := (tU st 0 12 10101)) (fun _ h => h) ?_
  rw [show ((tU st 0 12 10101).1 21 6) = (nI (u 5)) from hN.2.2.2.2.2.2.1]
  refine w_callS (As := [.int (nI (u 5))]) (rest := [.int (nI (c 0 k) + v 0)]) rfl rfl rfl (Nat.le_of_ble_eq_true rfl) (Nat.le_of_ble_eq_true rfl) (c_bitCountK (d + 2) (u 5) (tU st 0 12 10101) (hU 5 (by omega) (by omega))) ?_
  refine w_blk 1 (pc' := 28) (ls' := [some (.ref 0), some (.int (nI k))]) (sk' := [.int ((nI (c 0 k) + v 0) - (nI (pop (u 5) 8)))]) (st' := (tU st 0 12 10101)) (fun _ h => h) ?_
  exact w_iret rfl rfl rfl hq
set_option maxRecDepth 20000 in
/-- mark, Slow -/
theorem x_markSlow_5 (d : Nat) (n : Nat → Nat) (c : Nat → Nat → Nat) (v : Nat → Int32) (u : Nat → Nat) (yd : Nat) (k : Nat) (st : mSt) (hcw : st.1 0 1 = nI 5) (hX : X5 st n c) (hB : CB n c) (hN : N21 st v u yd) (hU : ∀ j, 3 ≤ j → j < 12 → u j < 256) (hk : k < n 0) : mMC mT (d + 3) 120 [.ref 0, .int (nI k)] st (some (.int (nI (c 0 k) - nI (c 1 k)))) (tU st 0 12 100001) := by
  refine mI_X9_markAsSlow (d := d + 2) (Nat.le_of_ble_eq_true rfl) (fun Q hq => ?_)
  show mW (mMC mT (d + 2)) (0, fun _ => 0) (mAtL P_X9_markAsSlow) (some .int) Q 0 [some (.ref 0), some (.int (nI k))] [] st
  have hcr : (st.1 0 1).toNatClampNeg = 5 := by rw [hcw]; rfl
  obtain ⟨hb0, hb1, hb2, hbd, hbs, hby⟩ := id hB
  refine w_blk 8 (pc' := 14) (ls' := [some (.ref 0), some (.int (nI k))]) (sk' := [.int (nI k), .ref 0]) (st' := (st.1, (mUL st.2 0 12 ((st.2 0 12) + 100000)))) (fun _ h => h) ?_
  have hsub := x_markPerson_5 (d + 0) n c v u yd k (tU st 0 12 100000) hcw hX hB hN hU hk
  rw [tU_add (e := 100001) (by decide)] at hsub
  refine w_callV (As := [.ref 0, .int (nI k)]) (rest := []) rfl rfl rfl (Nat.le_of_ble_eq_true rfl) (Nat.le_of_ble_eq_true rfl) (by first | exact Or.inl ⟨rfl, rfl⟩ | exact Or.inr ⟨rfl, rfl⟩) hsub ?_
  refine w_blk 1 (pc' := 18) (ls' := [some (.ref 0), some (.int (nI k))]) (sk' := [.ref 0, .int (nI (c 0 k))]) (st' := (tU st 0 12 100001)) (fun _ h => h) ?_
  refine w_blk 1 (pc' := 21) (ls' := [some (.ref 0), some (.int (nI k))]) (sk' := [.ref (Int32.toNatClampNeg ((tU st 0 12 100001).1 0 1)), .int (nI (c 0 k))]) (st' := (tU st 0 12 100001)) (fun _ h => h) ?_
  rw [show Int32.toNatClampNeg ((tU st 0 12 100001).1 0 1) = 5 from hcr]
  refine w_blk 2 (pc' := 25) (ls' := [some (.ref 0), some (.int (nI k))]) (sk' := [.int (nI k), .ref 7, .int (nI (c 0 k))]) (st' := (tU st 0 12 100001)) (fun _ h => h) ?_
  refine w_callS (As := [.ref 7, .int (nI k)]) (rest := [.int (nI (c 0 k))]) rfl rfl rfl (Nat.le_of_ble_eq_true rfl) (Nat.le_of_ble_eq_true rfl) (c_cellK (d + 1) 7 6 k (tU st 0 12 100001) (by omega) (by decide) rfl) ?_
  rw [show ((tU st 0 12 100001).1 7 k) = (nI (c 1 k)) from (hX.2.2.2.1 k (by omega)).2.1]
  refine w_blk 1 (pc' := 29) (ls' := [some (.ref 0), some (.int (nI k))]) (sk' := [.int ((nI (c 0 k)) - (nI (c 1 k)))]) (st' := (tU st 0 12 100001)) (fun _ h => h) ?_
  exact w_iret rfl rfl rfl hq
set_option maxRecDepth 20000 in
/-- mark, Slow -/
theorem x_markSlow_13 (d : Nat) (n : Nat → Nat) (c : Nat → Nat → Nat) (v : Nat → Int32) (u : Nat → Nat) (yd : Nat) (k : Nat) (st : mSt) (hcw : st.1 0 1 = nI 13) (hX : X13 st n c) (hB : CB n c) (hN : N21 st v u yd) (hU : ∀ j, 3 ≤ j → j < 12 → u j < 256) (hk : k < n 0) : mMC mT (d + 3) 120 [.ref 0, .int (nI k)] st (some (.int (nI (c 0 k) - nI (c 1 k)))) (tU st 0 12 100001) := by
  refine mI_X9_markAsSlow (d := d + 2) (Nat.le_of_ble_eq_true rfl) (fun Q hq => ?_)
  show mW (mMC mT (d + 2)) (0, fun _ => 0) (mAtL P_X9_markAsSlow) (some .int) Q 0 [some (.ref 0), some (.int (nI k))] [] st
  have hcr : (st.1 0 1).toNatClampNeg = 13 := by rw [hcw]; rfl
  obtain ⟨hb0, hb1, hb2, hbd, hbs, hby⟩ := id hB
  refine w_blk 8 (pc' := 14) (ls' := [some (.ref 0), some (.int (nI k))]) (sk' := [.int (nI k), .ref 0]) (st' := (st.1, (mUL st.2 0 12 ((st.2 0 12) + 100000)))) (fun _ h => h) ?_
  have hsub := x_markPerson_13 (d + 0) n c v u yd k (tU st 0 12 100000) hcw hX hB hN hU hk
  rw [tU_add (e := 100001) (by decide)] at hsub
  refine w_callV (As := [.ref 0, .int (nI k)]) (rest := []) rfl rfl rfl (Nat.le_of_ble_eq_true rfl) (Nat.le_of_ble_eq_true rfl) (by first | exact Or.inl ⟨rfl, rfl⟩ | exact Or.inr ⟨rfl, rfl⟩) hsub ?_
  refine w_blk 1 (pc' := 18) (ls' := [some (.ref 0), some (.int (nI k))]) (sk' := [.ref 0, .int (nI (c 0 k))]) (st' := (tU st 0 12 100001)) (fun _ h => h) ?_
  refine w_blk 1 (pc' := 21) (ls' := [some (.ref 0), some (.int (nI k))]) (sk' := [.ref (Int32.toNatClampNeg ((tU st 0 12 100001).1 0 1)), .int (nI (c 0 k))]) (st' := (tU st 0 12 100001)) (fun _ h => h) ?_
  rw [show Int32.toNatClampNeg ((tU st 0 12 100001).1 0 1) = 13 from hcr]
  refine w_blk 2 (pc' := 25) (ls' := [some (.ref 0), some (.int (nI k))]) (sk' := [.int (nI k), .ref 15, .int (nI (c 0 k))]) (st' := (tU st 0 12 100001)) (fun _ h => h) ?_
  refine w_callS (As := [.ref 15, .int (nI k)]) (rest := [.int (nI (c 0 k))]) rfl rfl rfl (Nat.le_of_ble_eq_true rfl) (Nat.le_of_ble_eq_true rfl) (c_cellK (d + 1) 15 6 k (tU st 0 12 100001) (by omega) (by decide) rfl) ?_
  rw [show ((tU st 0 12 100001).1 15 k) = (nI (c 1 k)) from (hX.2.2.2.1 k (by omega)).2.1]
  refine w_blk 1 (pc' := 29) (ls' := [some (.ref 0), some (.int (nI k))]) (sk' := [.int ((nI (c 0 k)) - (nI (c 1 k)))]) (st' := (tU st 0 12 100001)) (fun _ h => h) ?_
  exact w_iret rfl rfl rfl hq
def sp_mark (n : Nat → Nat) (c : Nat → Nat → Nat) (v : Nat → Int32) (u : Nat → Nat) (w x : Int32) : Int32 := if ok0 n x then (if w = 0 then nI (c 0 x.toNatClampNeg) else if w = 1 then nI (c 0 x.toNatClampNeg + pop (u (6 + x.toNatClampNeg)) 8) else if w = 2 then nI (c 0 x.toNatClampNeg) + v 0 else if w = 3 then nI ((c 0 x.toNatClampNeg + pop (u (6 + x.toNatClampNeg)) 8) * 2) else if w = 4 then nI (c 0 x.toNatClampNeg) + v 0 - nI (pop (u 5) 8) else if w = 5 then nI (c 0 x.toNatClampNeg) - nI (c 1 x.toNatClampNeg) else -1000000) else -1000000
def mk_t (n : Nat → Nat) (w x : Int32) : Int64 := if ok0 n x then (if w = 0 then 1 else if w = 1 then 11 else if w = 2 then 101 else if w = 3 then 1011 else if w = 4 then 10101 else if w = 5 then 100001 else 0) else 0
theorem tU_0 {st : mSt} {p k : Nat} : tU st p k 0 = st := by
  unfold tU
  refine Prod.ext rfl ?_
  funext q j
  show mUL st.2 p k (st.2 p k + 0) q j = st.2 q j
  unfold mUL
  by_cases hq : q = p
  · rw [if_pos hq]
    by_cases hj : j = k
    · subst hj; subst hq
      rw [pk_uLs, Int64.add_zero]
    · rw [pk_uLn hj, hq]
  · rw [if_neg hq]
set_option maxRecDepth 20000 in
/-- mark -/
theorem x_mark_5 (d : Nat) (n : Nat → Nat) (c : Nat → Nat → Nat) (v : Nat → Int32) (u : Nat → Nat) (yd : Nat) (w x : Int32) (st : mSt) (hcw : st.1 0 1 = nI 5) (hX : X5 st n c) (hB : CB n c) (hN : N21 st v u yd) (hU : ∀ j, 3 ≤ j → j < 12 → u j < 256) : mMC mT (d + 5) 109 [.ref 0, .int w, .int x] st (some (.int (sp_mark n c v u w x))) (tU st 0 12 (mk_t n w x)) := by
  refine mI_X9_mark (d := d + 4) (Nat.le_of_ble_eq_true rfl) (fun Q hq => ?_)
  show mW (mMC mT (d + 4)) (0, fun _ => 0) (mAtL P_X9_mark) (some .int) Q 0 [some (.ref 0), some (.int w), some (.int x)] [] st
  have hcr : (st.1 0 1).toNatClampNeg = 5 := by rw [hcw]; rfl
  obtain ⟨hb0, hb1, hb2, hbd, hbs, hby⟩ := id hB
  refine w_blk 1 (pc' := 1) (ls' := [some (.ref 0), some (.int w), some (.int x)]) (sk' := [.ref 0]) (st' := st) (fun _ h => h) ?_
  refine w_blk 1 (pc' := 4) (ls' := [some (.ref 0), some (.int w), some (.int x)]) (sk' := [.ref (Int32.toNatClampNeg (st.1 0 1))]) (st' := st) (fun _ h => h) ?_
  rw [show Int32.toNatClampNeg (st.1 0 1) = 5 from hcr]
  refine w_blk 1 (pc' := 5) (ls' := [some (.ref 0), some (.int w), some (.int x)]) (sk' := [.int x, .ref 5]) (st' := st) (fun _ h => h) ?_
  refine w_callV (As := [.ref 5, .int x]) (rest := []) rfl rfl rfl (Nat.le_of_ble_eq_true rfl) (Nat.le_of_ble_eq_true rfl) (by first | exact Or.inl ⟨rfl, rfl⟩ | exact Or.inr ⟨rfl, rfl⟩) (c_hasDigger_5 (d + 3) x st) ?_
  rw [hX.1]
  refine w_if_ne rfl (fun h1 => ?_) (fun h1 => ?_)
  · replace h1 := pI_ne.mp h1
    obtain ⟨k, hk, rfl⟩ := nI_in2 (by omega) h1
    have hok : ok0 n (nI k) := nI_in3 (by omega) hk
    have ec := nI_clamp (show k < 2 ^ 31 by omega)
    refine w_blk 1 (pc' := 16) (ls' := [some (.ref 0), some (.int w), some (.int (nI k))]) (sk' := [.int w]) (st' := st) (fun _ h => h) ?_
    by_cases hw0 : w = 0
    · subst hw0
      refine w_tblIn (t := 56) rfl (by decide) (by decide) rfl rfl ?_
      refine w_blk 2 (pc' := 58) (ls' := [some (.ref 0), some (.int 0), some (.int (nI k))]) (sk' := [.int (nI k), .ref 0]) (st' := st) (fun _ h => h) ?_
      refine w_callV (As := [.ref 0, .int (nI k)]) (rest := []) rfl rfl rfl (Nat.le_of_ble_eq_true rfl) (Nat.le_of_ble_eq_true rfl) (by first | exact Or.inl ⟨rfl, rfl⟩ | exact Or.inr ⟨rfl, rfl⟩) (x_markPerson_5 (d + 2) n c v u yd k st hcw hX hB hN hU hk) ?_
      rw [show sp_mark n c v u 0 (nI k) = nI (c 0 k) from (if_pos hok).trans (by rw [ec]; rfl), show mk_t n 0 (nI k) = 1 from (if_pos hok).trans rfl] at hq
      exact w_iret rfl rfl rfl hq
    · by_cases hw1 : w = 1
      · subst hw1
        refine w_tblIn (t := 62) rfl (by decide) (by decide) rfl rfl ?_
        refine w_blk 2 (pc' := 64) (ls' := [some (.ref 0), some (.int 1), some (.int (nI k))]) (sk' := [.int (nI k), .ref 0]) (st' := st) (fun _ h => h) ?_
        refine w_callV (As := [.ref 0, .int (nI k)]) (rest := []) rfl rfl rfl (Nat.le_of_ble_eq_true rfl) (Nat.le_of_ble_eq_true rfl) (by first | exact Or.inl ⟨rfl, rfl⟩ | exact Or.inr ⟨rfl, rfl⟩) (x_markDigger_5 (d + 1) n c v u yd k st hcw hX hB hN hU hk) ?_
        rw [show sp_mark n c v u 1 (nI k) = nI (c 0 k + pop (u (6 + k)) 8) from (if_pos hok).trans (by rw [ec]; rfl), show mk_t n 1 (nI k) = 11 from (if_pos hok).trans rfl] at hq
        exact w_iret rfl rfl rfl hq
      · by_cases hw2 : w = 2
        · subst hw2
          refine w_tblIn (t := 68) rfl (by decide) (by decide) rfl rfl ?_
          refine w_blk 2 (pc' := 70) (ls' := [some (.ref 0), some (.int 2), some (.int (nI k))]) (sk' := [.int (nI k), .ref 0]) (st' := st) (fun _ h => h) ?_
          refine w_callV (As := [.ref 0, .int (nI k)]) (rest := []) rfl rfl rfl (Nat.le_of_ble_eq_true rfl) (Nat.le_of_ble_eq_true rfl) (by first | exact Or.inl ⟨rfl, rfl⟩ | exact Or.inr ⟨rfl, rfl⟩) (x_markSinger_5 (d + 1) n c v u yd k st hcw hX hB hN hU hk) ?_
          rw [show sp_mark n c v u 2 (nI k) = (nI (c 0 k) + v 0) from (if_pos hok).trans (by rw [ec]; rfl), show mk_t n 2 (nI k) = 101 from (if_pos hok).trans rfl] at hq
          exact w_iret rfl rfl rfl hq
        · by_cases hw3 : w = 3
          · subst hw3
            refine w_tblIn (t := 74) rfl (by decide) (by decide) rfl rfl ?_
            refine w_blk 2 (pc' := 76) (ls' := [some (.ref 0), some (.int 3), some (.int (nI k))]) (sk' := [.int (nI k), .ref 0]) (st' := st) (fun _ h => h) ?_
            refine w_callV (As := [.ref 0, .int (nI k)]) (rest := []) rfl rfl rfl (Nat.le_of_ble_eq_true rfl) (Nat.le_of_ble_eq_true rfl) (by first | exact Or.inl ⟨rfl, rfl⟩ | exact Or.inr ⟨rfl, rfl⟩) (x_markLeft_5 (d + 0) n c v u yd k st hcw hX hB hN hU hk) ?_
            rw [show sp_mark n c v u 3 (nI k) = nI ((c 0 k + pop (u (6 + k)) 8) * 2) from (if_pos hok).trans (by rw [ec]; rfl), show mk_t n 3 (nI k) = 1011 from (if_pos hok).trans rfl] at hq
            exact w_iret rfl rfl rfl hq
          · by_cases hw4 : w = 4
            · subst hw4
              refine w_tblIn (t := 80) rfl (by decide) (by decide) rfl rfl ?_
              refine w_blk 2 (pc' := 82) (ls' := [some (.ref 0), some (.int 4), some (.int (nI k))]) (sk' := [.int (nI k), .ref 0]) (st' := st) (fun _ h => h) ?_
              refine w_callV (As := [.ref 0, .int (nI k)]) (rest := []) rfl rfl rfl (Nat.le_of_ble_eq_true rfl) (Nat.le_of_ble_eq_true rfl) (by first | exact Or.inl ⟨rfl, rfl⟩ | exact Or.inr ⟨rfl, rfl⟩) (x_markProphet_5 (d + 0) n c v u yd k st hcw hX hB hN hU hk) ?_
              rw [show sp_mark n c v u 4 (nI k) = (nI (c 0 k) + v 0 - nI (pop (u 5) 8)) from (if_pos hok).trans (by rw [ec]; rfl), show mk_t n 4 (nI k) = 10101 from (if_pos hok).trans rfl] at hq
              exact w_iret rfl rfl rfl hq
            · by_cases hw5 : w = 5
              · subst hw5
                refine w_tblIn (t := 86) rfl (by decide) (by decide) rfl rfl ?_
                refine w_blk 2 (pc' := 88) (ls' := [some (.ref 0), some (.int 5), some (.int (nI k))]) (sk' := [.int (nI k), .ref 0]) (st' := st) (fun _ h => h) ?_
                refine w_callV (As := [.ref 0, .int (nI k)]) (rest := []) rfl rfl rfl (Nat.le_of_ble_eq_true rfl) (Nat.le_of_ble_eq_true rfl) (by first | exact Or.inl ⟨rfl, rfl⟩ | exact Or.inr ⟨rfl, rfl⟩) (x_markSlow_5 (d + 1) n c v u yd k st hcw hX hB hN hU hk) ?_
                rw [show sp_mark n c v u 5 (nI k) = (nI (c 0 k) - nI (c 1 k)) from (if_pos hok).trans (by rw [ec]; rfl), show mk_t n 5 (nI k) = 100001 from (if_pos hok).trans rfl] at hq
                exact w_iret rfl rfl rfl hq
              · refine w_tblOut (t := 92) rfl (tbl_out 5 (by decide) (by intro k hk; rcases (show k = 0 ∨ k = 1 ∨ k = 2 ∨ k = 3 ∨ k = 4 ∨ k = 5 by omega) with rfl | rfl | rfl | rfl | rfl | rfl <;> assumption)) rfl ?_
                refine w_blk 1 (pc' := 95) (ls' := [some (.ref 0), some (.int w), some (.int (nI k))]) (sk' := [.int (-1000000)]) (st' := st) (fun _ h => h) ?_
                rw [show sp_mark n c v u w (nI k) = -1000000 from (if_pos hok).trans (by rw [if_neg hw0, if_neg hw1, if_neg hw2, if_neg hw3, if_neg hw4, if_neg hw5]), show mk_t n w (nI k) = 0 from (if_pos hok).trans (by rw [if_neg hw0, if_neg hw1, if_neg hw2, if_neg hw3, if_neg hw4, if_neg hw5]), tU_0] at hq
                exact w_iret rfl rfl rfl hq
  · replace h1 := pI_eq0.mp (Decidable.not_not.mp h1)
    refine w_blk 1 (pc' := 14) (ls' := [some (.ref 0), some (.int w), some (.int x)]) (sk' := [.int (-1000000)]) (st' := st) (fun _ h => h) ?_
    rw [show sp_mark n c v u w x = -1000000 from if_neg h1, show mk_t n w x = 0 from if_neg h1, tU_0] at hq
    exact w_iret rfl rfl rfl hq
set_option maxRecDepth 20000 in
/-- mark -/
theorem x_mark_13 (d : Nat) (n : Nat → Nat) (c : Nat → Nat → Nat) (v : Nat → Int32) (u : Nat → Nat) (yd : Nat) (w x : Int32) (st : mSt) (hcw : st.1 0 1 = nI 13) (hX : X13 st n c) (hB : CB n c) (hN : N21 st v u yd) (hU : ∀ j, 3 ≤ j → j < 12 → u j < 256) : mMC mT (d + 5) 109 [.ref 0, .int w, .int x] st (some (.int (sp_mark n c v u w x))) (tU st 0 12 (mk_t n w x)) := by
  refine mI_X9_mark (d := d + 4) (Nat.le_of_ble_eq_true rfl) (fun Q hq => ?_)
  show mW (mMC mT (d + 4)) (0, fun _ => 0) (mAtL P_X9_mark) (some .int) Q 0 [some (.ref 0), some (.int w), some (.int x)] [] st
  have hcr : (st.1 0 1).toNatClampNeg = 13 := by rw [hcw]; rfl
  obtain ⟨hb0, hb1, hb2, hbd, hbs, hby⟩ := id hB
  refine w_blk 1 (pc' := 1) (ls' := [some (.ref 0), some (.int w), some (.int x)]) (sk' := [.ref 0]) (st' := st) (fun _ h => h) ?_
  refine w_blk 1 (pc' := 4) (ls' := [some (.ref 0), some (.int w), some (.int x)]) (sk' := [.ref (Int32.toNatClampNeg (st.1 0 1))]) (st' := st) (fun _ h => h) ?_
  rw [show Int32.toNatClampNeg (st.1 0 1) = 13 from hcr]
  refine w_blk 1 (pc' := 5) (ls' := [some (.ref 0), some (.int w), some (.int x)]) (sk' := [.int x, .ref 13]) (st' := st) (fun _ h => h) ?_
  refine w_callV (As := [.ref 13, .int x]) (rest := []) rfl rfl rfl (Nat.le_of_ble_eq_true rfl) (Nat.le_of_ble_eq_true rfl) (by first | exact Or.inl ⟨rfl, rfl⟩ | exact Or.inr ⟨rfl, rfl⟩) (c_hasDigger_13 (d + 3) x st) ?_
  rw [hX.1]
  refine w_if_ne rfl (fun h1 => ?_) (fun h1 => ?_)
  · replace h1 := pI_ne.mp h1
    obtain ⟨k, hk, rfl⟩ := nI_in2 (by omega) h1
    have hok : ok0 n (nI k) := nI_in3 (by omega) hk
    have ec := nI_clamp (show k < 2 ^ 31 by omega)
    refine w_blk 1 (pc' := 16) (ls' := [some (.ref 0), some (.int w), some (.int (nI k))]) (sk' := [.int w]) (st' := st) (fun _ h => h) ?_
    by_cases hw0 : w = 0
    · subst hw0
      refine w_tblIn (t := 56) rfl (by decide) (by decide) rfl rfl ?_
      refine w_blk 2 (pc' := 58) (ls' := [some (.ref 0), some (.int 0), some (.int (nI k))]) (sk' := [.int (nI k), .ref 0]) (st' := st) (fun _ h => h) ?_
      refine w_callV (As := [.ref 0, .int (nI k)]) (rest := []) rfl rfl rfl (Nat.le_of_ble_eq_true rfl) (Nat.le_of_ble_eq_true rfl) (by first | exact Or.inl ⟨rfl, rfl⟩ | exact Or.inr ⟨rfl, rfl⟩) (x_markPerson_13 (d + 2) n c v u yd k st hcw hX hB hN hU hk) ?_
      rw [show sp_mark n c v u 0 (nI k) = nI (c 0 k) from (if_pos hok).trans (by rw [ec]; rfl), show mk_t n 0 (nI k) = 1 from (if_pos hok).trans rfl] at hq
      exact w_iret rfl rfl rfl hq
    · by_cases hw1 : w = 1
      · subst hw1
        refine w_tblIn (t := 62) rfl (by decide) (by decide) rfl rfl ?_
        refine w_blk 2 (pc' := 64) (ls' := [some (.ref 0), some (.int 1), some (.int (nI k))]) (sk' := [.int (nI k), .ref 0]) (st' := st) (fun _ h => h) ?_
        refine w_callV (As := [.ref 0, .int (nI k)]) (rest := []) rfl rfl rfl (Nat.le_of_ble_eq_true rfl) (Nat.le_of_ble_eq_true rfl) (by first | exact Or.inl ⟨rfl, rfl⟩ | exact Or.inr ⟨rfl, rfl⟩) (x_markDigger_13 (d + 1) n c v u yd k st hcw hX hB hN hU hk) ?_
        rw [show sp_mark n c v u 1 (nI k) = nI (c 0 k + pop (u (6 + k)) 8) from (if_pos hok).trans (by rw [ec]; rfl), show mk_t n 1 (nI k) = 11 from (if_pos hok).trans rfl] at hq
        exact w_iret rfl rfl rfl hq
      · by_cases hw2 : w = 2
        · subst hw2
          refine w_tblIn (t := 68) rfl (by decide) (by decide) rfl rfl ?_
          refine w_blk 2 (pc' := 70) (ls' := [some (.ref 0), some (.int 2), some (.int (nI k))]) (sk' := [.int (nI k), .ref 0]) (st' := st) (fun _ h => h) ?_
          refine w_callV (As := [.ref 0, .int (nI k)]) (rest := []) rfl rfl rfl (Nat.le_of_ble_eq_true rfl) (Nat.le_of_ble_eq_true rfl) (by first | exact Or.inl ⟨rfl, rfl⟩ | exact Or.inr ⟨rfl, rfl⟩) (x_markSinger_13 (d + 1) n c v u yd k st hcw hX hB hN hU hk) ?_
          rw [show sp_mark n c v u 2 (nI k) = (nI (c 0 k) + v 0) from (if_pos hok).trans (by rw [ec]; rfl), show mk_t n 2 (nI k) = 101 from (if_pos hok).trans rfl] at hq
          exact w_iret rfl rfl rfl hq
        · by_cases hw3 : w = 3
          · subst hw3
            refine w_tblIn (t := 74) rfl (by decide) (by decide) rfl rfl ?_
            refine w_blk 2 (pc' := 76) (ls' := [some (.ref 0), some (.int 3), some (.int (nI k))]) (sk' := [.int (nI k), .ref 0]) (st' := st) (fun _ h => h) ?_
            refine w_callV (As := [.ref 0, .int (nI k)]) (rest := []) rfl rfl rfl (Nat.le_of_ble_eq_true rfl) (Nat.le_of_ble_eq_true rfl) (by first | exact Or.inl ⟨rfl, rfl⟩ | exact Or.inr ⟨rfl, rfl⟩) (x_markLeft_13 (d + 0) n c v u yd k st hcw hX hB hN hU hk) ?_
            rw [show sp_mark n c v u 3 (nI k) = nI ((c 0 k + pop (u (6 + k)) 8) * 2) from (if_pos hok).trans (by rw [ec]; rfl), show mk_t n 3 (nI k) = 1011 from (if_pos hok).trans rfl] at hq
            exact w_iret rfl rfl rfl hq
          · by_cases hw4 : w = 4
            · subst hw4
              refine w_tblIn (t := 80) rfl (by decide) (by decide) rfl rfl ?_
              refine w_blk 2 (pc' := 82) (ls' := [some (.ref 0), some (.int 4), some (.int (nI k))]) (sk' := [.int (nI k), .ref 0]) (st' := st) (fun _ h => h) ?_
              refine w_callV (As := [.ref 0, .int (nI k)]) (rest := []) rfl rfl rfl (Nat.le_of_ble_eq_true rfl) (Nat.le_of_ble_eq_true rfl) (by first | exact Or.inl ⟨rfl, rfl⟩ | exact Or.inr ⟨rfl, rfl⟩) (x_markProphet_13 (d + 0) n c v u yd k st hcw hX hB hN hU hk) ?_
              rw [show sp_mark n c v u 4 (nI k) = (nI (c 0 k) + v 0 - nI (pop (u 5) 8)) from (if_pos hok).trans (by rw [ec]; rfl), show mk_t n 4 (nI k) = 10101 from (if_pos hok).trans rfl] at hq
              exact w_iret rfl rfl rfl hq
            · by_cases hw5 : w = 5
              · subst hw5
                refine w_tblIn (t := 86) rfl (by decide) (by decide) rfl rfl ?_
                refine w_blk 2 (pc' := 88) (ls' := [some (.ref 0), some (.int 5), some (.int (nI k))]) (sk' := [.int (nI k), .ref 0]) (st' := st) (fun _ h => h) ?_
                refine w_callV (As := [.ref 0, .int (nI k)]) (rest := []) rfl rfl rfl (Nat.le_of_ble_eq_true rfl) (Nat.le_of_ble_eq_true rfl) (by first | exact Or.inl ⟨rfl, rfl⟩ | exact Or.inr ⟨rfl, rfl⟩) (x_markSlow_13 (d + 1) n c v u yd k st hcw hX hB hN hU hk) ?_
                rw [show sp_mark n c v u 5 (nI k) = (nI (c 0 k) - nI (c 1 k)) from (if_pos hok).trans (by rw [ec]; rfl), show mk_t n 5 (nI k) = 100001 from (if_pos hok).trans rfl] at hq
                exact w_iret rfl rfl rfl hq
              · refine w_tblOut (t := 92) rfl (tbl_out 5 (by decide) (by intro k hk; rcases (show k = 0 ∨ k = 1 ∨ k = 2 ∨ k = 3 ∨ k = 4 ∨ k = 5 by omega) with rfl | rfl | rfl | rfl | rfl | rfl <;> assumption)) rfl ?_
                refine w_blk 1 (pc' := 95) (ls' := [some (.ref 0), some (.int w), some (.int (nI k))]) (sk' := [.int (-1000000)]) (st' := st) (fun _ h => h) ?_
                rw [show sp_mark n c v u w (nI k) = -1000000 from (if_pos hok).trans (by rw [if_neg hw0, if_neg hw1, if_neg hw2, if_neg hw3, if_neg hw4, if_neg hw5]), show mk_t n w (nI k) = 0 from (if_pos hok).trans (by rw [if_neg hw0, if_neg hw1, if_neg hw2, if_neg hw3, if_neg hw4, if_neg hw5]), tU_0] at hq
                exact w_iret rfl rfl rfl hq
  · replace h1 := pI_eq0.mp (Decidable.not_not.mp h1)
    refine w_blk 1 (pc' := 14) (ls' := [some (.ref 0), some (.int w), some (.int x)]) (sk' := [.int (-1000000)]) (st' := st) (fun _ h => h) ?_
    rw [show sp_mark n c v u w x = -1000000 from if_neg h1, show mk_t n w x = 0 from if_neg h1, tU_0] at hq
    exact w_iret rfl rfl rfl hq
set_option maxRecDepth 20000 in
/-- trace -/
theorem x_trace (d : Nat) (st : mSt) : mMC mT (d + 1) 113 [.ref 0] st (some (.long (st.2 0 12))) st := by
  refine mI_X9_trace (d := d + 0) (Nat.le_of_ble_eq_true rfl) (fun Q hq => ?_)
  show mW (mMC mT (d + 0)) (0, fun _ => 0) (mAtL P_X9_trace) (some .long) Q 0 [some (.ref 0)] [] st
  refine w_blk 2 (pc' := 4) (ls' := [some (.ref 0)]) (sk' := [.long (st.2 0 12)]) (st' := st) (fun _ h => h) ?_
  exact w_lret rfl rfl hq
end
section
/-! BYTES of a long, as both sides cut them -/
def bv (v : Int64) (k : Nat) : Nat := v.toBitVec.toNat / 2 ^ (8 * k) % 256
theorem bv_lt (v : Int64) (k : Nat) : bv v k < 256 := Nat.mod_lt _ (by decide)
theorem sh_u : ∀ k, k < 8 → ((Int64.toUInt64 (Int32.toInt64 (nI (8 * k))) &&& Int64.toUInt64 63).toBitVec % 64).toNat = 8 * k := by decide +kernel
theorem sh_s : ∀ k, k < 8 → ((Int32.toInt64 (nI (8 * k)) &&& 63).toBitVec.smod 64).toNat = 8 * k := by decide +kernel
theorem x_byte (v : Int64) {k : Nat} (hk : k < 8) : (Int64.toInt32 ((Int64.toUInt64 v >>> (Int64.toUInt64 (Int32.toInt64 (nI (8 * k))) &&& Int64.toUInt64 63)).toInt64)) &&& 255 = nI (bv v k) := by
  rw [pk_and _ 8 (by decide)]
  have e : (Int64.toInt32 ((Int64.toUInt64 v >>> (Int64.toUInt64 (Int32.toInt64 (nI (8 * k))) &&& Int64.toUInt64 63)).toInt64)).toBitVec.toNat % 2 ^ 8 = bv v k := by
    show (BitVec.signExtend 32 (v.toBitVec >>> ((Int64.toUInt64 (Int32.toInt64 (nI (8 * k))) &&& Int64.toUInt64 63).toBitVec % 64))).toNat % 2 ^ 8 = _
    rw [BitVec.signExtend_eq_setWidth_of_le _ (by decide), BitVec.toNat_setWidth, BitVec.ushiftRight_eq', BitVec.toNat_ushiftRight, sh_u k hk, Nat.shiftRight_eq_div_pow, Nat.mod_mod_of_dvd _ (by decide)]
    rfl
  rw [e]
theorem sar_low (x : BitVec 64) {n : Nat} (hn : n + 8 ≤ 64) : (x.sshiftRight n).toNat % 2 ^ 8 = x.toNat / 2 ^ n % 2 ^ 8 := by
  apply Nat.eq_of_testBit_eq
  intro i
  rw [Nat.testBit_mod_two_pow, Nat.testBit_mod_two_pow, BitVec.testBit_toNat, BitVec.getLsbD_sshiftRight, Nat.testBit_div_two_pow, BitVec.testBit_toNat]
  by_cases hi : i < 8
  · have h1 : ¬ 64 ≤ i := by omega
    have h2 : n + i < 64 := by omega
    simp [hi, h1, h2, Nat.add_comm]
  · simp [hi]
theorem m_byte (v : Int64) {k : Nat} (hk : k < 8) : Int64.toInt32 ((v >>> (Int32.toInt64 (nI (8 * k)) &&& 63)) &&& 255) = nI (bv v k) := by
  apply i32_ext
  show (BitVec.signExtend 32 ((v.toBitVec.sshiftRight ((Int32.toInt64 (nI (8 * k)) &&& 63).toBitVec.smod 64).toNat) &&& 255#64)).toNat = _
  rw [BitVec.signExtend_eq_setWidth_of_le _ (by decide), BitVec.toNat_setWidth, BitVec.toNat_and, sh_s k hk]
  have e : (255#64).toNat = 2 ^ 8 - 1 := by decide
  rw [e, Nat.and_two_pow_sub_one_eq_mod, sar_low _ (by omega), nI_toNat]
  rfl
/-- a byte as the model keeps it -/
def sb (x : Nat) : Int32 := Int8.toInt32 (Int32.toInt8 (nI x))
theorem sb_nar (x : Nat) : vp_nar .byte (Int8.toInt32 (Int32.toInt8 (nI x))) = sb x := pk_vb _
theorem sb_and : ∀ x, x < 256 → sb x &&& 255 = nI x := by decide +kernel
/-- n bytes of v behind the first L -/
def app (b : Nat → Nat) (L : Nat) (v : Int64) : Nat → Nat → Nat
  | 0 => b
  | k + 1 => app (updN b L (bv v k)) (L + 1) v k
theorem app_lt {v : Int64} : ∀ k b L, (∀ j, j < L → b j < 256) → ∀ j, j < L + k → app b L v k j < 256 := by
  intro k
  induction k with
  | zero => exact fun b L h j hj => h j hj
  | succ k ih =>
    intro b L h j hj
    refine ih (updN b L (bv v k)) (L + 1) (fun i hi => ?_) j (by omega)
    by_cases e : i = L
    · subst e
      rw [updN_s]
      exact bv_lt v k
    · rw [updN_n e]
      exact h i (by omega)
def XS (st : mSt) (L : Nat) (b : Nat → Nat) : Prop := st.1 1 0 = nI L ∧ ∀ j, j < L → st.1 2 j = nI (b j)
def MS (st : mSt) (L : Nat) (b : Nat → Nat) : Prop := st.1 53 2 = nI L ∧ ∀ j, j < L → st.1 54 j = sb (b j)
theorem XS_add {st : mSt} {L : Nat} {b : Nat → Nat} (h : XS st L b) (x : Nat) : XS (mU (mU st.1 2 L (nI x)) 1 0 (nI (L + 1)), st.2) (L + 1) (updN b L x) := by
  refine ⟨rfl, fun j hj => ?_⟩
  show mU st.1 2 L (nI x) 2 j = _
  by_cases e : j = L
  · subst e
    rw [updN_s]
    exact mU_at
  · rw [updN_n e, mU_row e]
    exact h.2 j (by omega)
theorem MS_add {st : mSt} {L : Nat} {b : Nat → Nat} (h : MS st L b) (x : Nat) : MS (mU (mU st.1 54 L (sb x)) 53 2 (nI (L + 1)), st.2) (L + 1) (updN b L x) := by
  refine ⟨rfl, fun j hj => ?_⟩
  show mU st.1 54 L (sb x) 54 j = _
  by_cases e : j = L
  · subst e
    rw [updN_s]
    exact mU_at
  · rw [updN_n e, mU_row e]
    exact h.2 j (by omega)
theorem XS_fr {S : List Nat} {st st1 : mSt} {L : Nat} {b : Nat → Nat} (hf : Fr S st st1) (hS : ∀ p, p ∈ [2] → p ∉ S) (h0 : st1.1 1 0 = st.1 1 0) (h : XS st L b) : XS st1 L b := by
  unfold XS at h ⊢
  rw [h0, hf.1 2 (hS 2 (by decide))]
  exact h
theorem MS_fr {S : List Nat} {st st1 : mSt} {L : Nat} {b : Nat → Nat} (hf : Fr S st st1) (hS : ∀ p, p ∈ [54] → p ∉ S) (h0 : st1.1 53 2 = st.1 53 2) (h : MS st L b) : MS st1 L b := by
  unfold MS at h ⊢
  rw [h0, hf.1 54 (hS 54 (by decide))]
  exact h
end
section
/-! TYPING, both sides -/
theorem app_s (b : Nat → Nat) (L : Nat) (v : Int64) (k : Nat) : app b L v (k + 1) = app (updN b L (bv v k)) (L + 1) v k := by rw [app]
theorem i_m1 (x : Int32) : x + Int32.ofInt (-1) = x - 1 := by rw [Int32.sub_eq_add_neg, show Int32.ofInt (-1) = -1 from by decide]
theorem w_iinc {C : Nat → List Value → mSt → Option Value → mSt → Prop} {S : Nat × (Nat → Int32)} {P : Nat → Option mE} {rt : Option FieldType} {Q : Option Value → mSt → Prop} {pc : Nat} {ls ls' : mLs} {st : mSt} {sk : List Value} {i : Nat} {n : Int} {len : Nat} {aux : List Nat} {z : Int} {x y : Int32} (hp : P pc = some (.iinc i n, len, aux, z)) (hg : mGet ls i = some (.int x)) (hl : Nat.blt i ls.length = true) (hy : x + Int32.ofInt n = y) (hs : mSet1 ls i (.int y) = ls') (k : mW C S P rt Q (pc + 3) ls' sk st) : mW C S P rt Q pc ls sk st := w_step hp (fun K k => by
  show match mGet ls i with | some (.int x) => bif Nat.blt i ls.length then K (pc + 3) (mSet1 ls i (.int (x + Int32.ofInt n))) sk st else False | _ => False
  rw [hg]
  simp only [hl, cond_true, hy, hs]
  exact k) k
def sp_type (L : Nat) (n : Int32) : Int32 := if 1 ≤ n ∧ n ≤ 8 then (if L + n.toNatClampNeg ≤ 300 then nI (L + n.toNatClampNeg) else -3) else -1
def ty_n (L : Nat) (n : Int32) : Nat := if (1 ≤ n ∧ n ≤ 8) ∧ L + n.toNatClampNeg ≤ 300 then n.toNatClampNeg else 0
set_option maxRecDepth 20000 in
/-- append(v, n) -/
theorem c_append (d : Nat) (v : Int64) (L : Nat) (b : Nat → Nat) (n : Nat) (st : mSt) (hP : XS st L b) (hL : L + n ≤ 300) (hn : n ≤ 8) : ∃ (s : mSt), mMC mT (d + 2) 59 [.ref 1, .long v, .int (nI n)] st (none) s ∧ XS s (L + n) (app b L v n) ∧ Fr [1, 2] st s ∧ Fk 1 [0] st s := by
  suffices H : ∀ Q : Option Value → mSt → Prop, (∀ (s : mSt), (XS s (L + n) (app b L v n) ∧ Fr [1, 2] st s ∧ Fk 1 [0] st s) → Q (none) s) → mW (mMC mT (d + 1)) (0, fun _ => 0) (mAtL P_X7_append) none Q 0 [some (.ref 1), some (.long v), none, some (.int (nI n)), none] [] st by
    obtain ⟨_, _, ⟨s, rfl, rfl, hp⟩, hw⟩ := mW_ex (H (fun vv tt => ∃ (s : mSt),  vv = none ∧ s = tt ∧ XS s (L + n) (app b L v n) ∧ Fr [1, 2] st s ∧ Fk 1 [0] st s) (fun s hp => ⟨s, rfl, rfl, hp⟩))
    exact ⟨s, mI_X7_append (d := d + 1) (Nat.le_of_ble_eq_true rfl) hw, hp⟩
  intro Q hq
  refine w_blk 4 (pc' := 5) (ls' := [some (.ref 1), some (.long v), none, some (.int (nI n)), some (.int ((nI n) - 1))]) (sk' := []) (st' := st) (fun _ h => h) ?_
  suffices key : ∀ (k L : Nat) (b : Nat → Nat) (s0 : mSt), XS s0 L b → L + k ≤ 300 → k ≤ 8 → (∀ s : mSt, (XS s (L + k) (app b L v k) ∧ Fr [1, 2] s0 s ∧ Fk 1 [0] s0 s) → Q none s) → mW (mMC mT (d + 1)) (0, fun _ => 0) (mAtL P_X7_append) none Q 5 [some (.ref 1), some (.long v), none, some (.int (nI n)), some (.int ((nI k) - 1))] [] s0 from key n L b st hP hL hn hq
  intro k
  induction k with
  | zero =>
    intro L b s0 hP hL hk hq2
    refine w_blk 1 (pc' := 7) (ls' := [some (.ref 1), some (.long v), none, some (.int (nI n)), some (.int ((nI 0) - 1))]) (sk' := [.int ((nI 0) - 1)]) (st' := s0) (fun _ h => h) ?_
    refine w_if_lt rfl (fun _ => ?_) (fun hno => absurd (show nI 0 - 1 < 0 by decide) hno)
    exact w_vret rfl rfl (hq2 _ ⟨hP, Fr.rf, Fk.rf⟩)
  | succ k ih =>
    intro L b s0 hP hL hk hq2
    rw [nI_pred]
    refine w_blk 1 (pc' := 7) (ls' := [some (.ref 1), some (.long v), none, some (.int (nI n)), some (.int (nI k))]) (sk' := [.int (nI k)]) (st' := s0) (fun _ h => h) ?_
    refine w_if_lt rfl (fun hno => absurd hno (nI_pos (show k < 2 ^ 31 by omega))) (fun _ => ?_)
    refine w_blk 4 (pc' := 18) (ls' := [some (.ref 1), some (.long v), none, some (.int (nI n)), some (.int (nI k))]) (sk' := [.int (s0.1 1 0), .ref 2]) (st' := s0) (fun _ h => h) ?_
    rw [hP.1]
    refine w_blk 4 (pc' := 24) (ls' := [some (.ref 1), some (.long v), none, some (.int (nI n)), some (.int (nI k))]) (sk' := [.int (8 * (nI k)), .long v, .int (nI L), .ref 2]) (st' := s0) (fun _ h => h) ?_
    rw [show (8 * (nI k)) = nI (8 * k) from pk_mul 8 k]
    refine w_blk 4 (pc' := 30) (ls' := [some (.ref 1), some (.long v), none, some (.int (nI n)), some (.int (nI k))]) (sk' := [.int ((Int64.toInt32 ((Int64.toUInt64 v >>> (Int64.toUInt64 (Int32.toInt64 (nI (8 * k))) &&& Int64.toUInt64 63)).toInt64)) &&& 255), .int (nI L), .ref 2]) (st' := s0) (fun _ h => h) ?_
    rw [show ((Int64.toInt32 ((Int64.toUInt64 v >>> (Int64.toUInt64 (Int32.toInt64 (nI (8 * k))) &&& Int64.toUInt64 63)).toInt64)) &&& 255) = nI (bv v k) from x_byte v (by omega)]
    refine w_callS (As := [.ref 2, .int (nI L), .int (nI (bv v k))]) (rest := []) rfl rfl rfl (Nat.le_of_ble_eq_true rfl) (Nat.le_of_ble_eq_true rfl) (c_putK (d + 0) 2 300 L (nI (bv v k)) s0 (by omega) (by decide) rfl) ?_
    refine w_blk 3 (pc' := 38) (ls' := [some (.ref 1), some (.long v), none, some (.int (nI n)), some (.int (nI k))]) (sk' := [.int (s0.1 1 0), .ref 1]) (st' := ((mU s0.1 2 L (nI (bv v k))), s0.2)) (fun _ h => h) ?_
    rw [hP.1]
    refine w_blk 2 (pc' := 40) (ls' := [some (.ref 1), some (.long v), none, some (.int (nI n)), some (.int (nI k))]) (sk' := [.int ((nI L) + 1), .ref 1]) (st' := ((mU s0.1 2 L (nI (bv v k))), s0.2)) (fun _ h => h) ?_
    rw [show ((nI L) + 1) = nI (L + 1) from nI_add L 1]
    refine w_blk 1 (pc' := 43) (ls' := [some (.ref 1), some (.long v), none, some (.int (nI n)), some (.int (nI k))]) (sk' := []) (st' := ((mU (mU s0.1 2 L (nI (bv v k))) 1 0 (nI (L + 1))), s0.2)) (fun _ h => h) ?_
    refine w_iinc (y := ((nI k) - 1)) (ls' := [some (.ref 1), some (.long v), none, some (.int (nI n)), some (.int ((nI k) - 1))]) rfl rfl rfl (i_m1 _) rfl ?_
    refine w_blk 1 (pc' := 5) (ls' := [some (.ref 1), some (.long v), none, some (.int (nI n)), some (.int ((nI k) - 1))]) (sk' := []) (st' := ((mU (mU s0.1 2 L (nI (bv v k))) 1 0 (nI (L + 1))), s0.2)) (fun _ h => h) ?_
    refine ih (L + 1) (updN b L (bv v k)) ((mU (mU s0.1 2 L (nI (bv v k))) 1 0 (nI (L + 1))), s0.2) (XS_add hP _) (by omega) (by omega) (fun s hs => hq2 s ⟨?_, ?_, ?_⟩)
    · have := hs.1; rw [show L + 1 + k = L + (k + 1) by omega, ← app_s] at this; exact this
    · exact Fr.trans (Fr.trans (Fr.trans Fr.rf (Fr.mU (by decide))) (Fr.mU (by decide))) hs.2.1
    · exact Fk.trans (Fk.trans (Fk.wn (st := s0) (by decide)) (Fk.wr (st := (mU s0.1 2 L (nI (bv v k)), s0.2)) (by decide))) hs.2.2
set_option maxRecDepth 20000 in
/-- hasRoomFor(n) -/
theorem c_hasRoom (d : Nat) (L n : Nat) (b : Nat → Nat) (st : mSt) (hP : XS st L b) (hL : L ≤ 300) (hn : n ≤ 8) : mMC mT (d + 1) 58 [.ref 1, .int (nI n)] st (some (.int (pI (L + n ≤ 300)))) st := by
  refine mI_X7_hasRoomFor (d := d + 0) (Nat.le_of_ble_eq_true rfl) (fun Q hq => ?_)
  show mW (mMC mT (d + 0)) (0, fun _ => 0) (mAtL P_X7_hasRoomFor) (some .boolean) Q 0 [some (.ref 1), some (.int (nI n))] [] st
  refine w_blk 2 (pc' := 4) (ls' := [some (.ref 1), some (.int (nI n))]) (sk' := [.int (st.1 1 0)]) (st' := st) (fun _ h => h) ?_
  rw [hP.1]
  refine w_blk 2 (pc' := 6) (ls' := [some (.ref 1), some (.int (nI n))]) (sk' := [.int ((nI L) + (nI n))]) (st' := st) (fun _ h => h) ?_
  rw [show ((nI L) + (nI n)) = nI (L + n) from nI_add L n]
  refine w_blk 1 (pc' := 9) (ls' := [some (.ref 1), some (.int (nI n))]) (sk' := [.int 300, .int (nI (L + n))]) (st' := st) (fun _ h => h) ?_
  refine w_cmp_gt rfl (fun h1 => ?_) (fun h1 => ?_)
  · replace h1 : 300 < L + n := (nI_ltI (a := 300) (b := (L + n)) (by omega) (by omega)).mp h1
    refine w_blk 1 (pc' := 17) (ls' := [some (.ref 1), some (.int (nI n))]) (sk' := [.int 0]) (st' := st) (fun _ h => h) ?_
    exact w_iret rfl rfl rfl (by rw [pI_f (show ¬ L + n ≤ 300 by omega) ] at hq; exact hq)
  · replace h1 : ¬ (300 < L + n) := fun hh => h1 ((nI_ltI (a := 300) (b := (L + n)) (by omega) (by omega)).mpr hh)
    refine w_blk 2 (pc' := 17) (ls' := [some (.ref 1), some (.int (nI n))]) (sk' := [.int 1]) (st' := st) (fun _ h => h) ?_
    exact w_iret rfl rfl rfl (by rw [pI_t (show L + n ≤ 300 by omega) ] at hq; exact hq)
set_option maxRecDepth 20000 in
/-- type -/
theorem x_type (d : Nat) (v : Int64) (n : Int32) (L : Nat) (b : Nat → Nat) (st : mSt) (hP : XS st L b) (hL : L ≤ 300) : ∃ (s : mSt), mMC mT (d + 3) 85 [.ref 0, .long v, .int n] st (some (.int (sp_type L n))) s ∧ XS s (L + ty_n L n) (app b L v (ty_n L n)) ∧ Fr [1, 2] st s ∧ Fk 1 [0] st s := by
  suffices H : ∀ Q : Option Value → mSt → Prop, (∀ (s : mSt), (XS s (L + ty_n L n) (app b L v (ty_n L n)) ∧ Fr [1, 2] st s ∧ Fk 1 [0] st s) → Q (some (.int (sp_type L n))) s) → mW (mMC mT (d + 2)) (0, fun _ => 0) (mAtL P_X9_type) (some .int) Q 0 [some (.ref 0), some (.long v), none, some (.int n)] [] st by
    obtain ⟨_, _, ⟨s, rfl, rfl, hp⟩, hw⟩ := mW_ex (H (fun vv tt => ∃ (s : mSt),  vv = some (.int (sp_type L n)) ∧ s = tt ∧ XS s (L + ty_n L n) (app b L v (ty_n L n)) ∧ Fr [1, 2] st s ∧ Fk 1 [0] st s) (fun s hp => ⟨s, rfl, rfl, hp⟩))
    exact ⟨s, mI_X9_type (d := d + 2) (Nat.le_of_ble_eq_true rfl) hw, hp⟩
  intro Q hq
  refine w_blk 3 (pc' := 4) (ls' := [some (.ref 0), some (.long v), none, some (.int n)]) (sk' := [.int 8, .int 1, .int n]) (st' := st) (fun _ h => h) ?_
  refine w_callS (As := [.int n, .int 1, .int 8]) (rest := []) rfl rfl rfl (Nat.le_of_ble_eq_true rfl) (Nat.le_of_ble_eq_true rfl) (c_within (d + 1) n 1 8 st) ?_
  refine w_if_ne rfl (fun h1 => ?_) (fun h1 => ?_)
  · replace h1 := pI_ne.mp h1
    have hok : 1 ≤ n ∧ n ≤ 8 := h1
    obtain ⟨k, hk1, hk8, rfl⟩ := nI_within (a := 1) (b := 8) h1 (by decide) (by decide)
    have ec := nI_clamp (show k < 2 ^ 31 by omega)
    refine w_blk 3 (pc' := 17) (ls' := [some (.ref 0), some (.long v), none, some (.int (nI k))]) (sk' := [.int (nI k), .ref 1]) (st' := st) (fun _ h => h) ?_
    refine w_callV (As := [.ref 1, .int (nI k)]) (rest := []) rfl rfl rfl (Nat.le_of_ble_eq_true rfl) (Nat.le_of_ble_eq_true rfl) (by first | exact Or.inl ⟨rfl, rfl⟩ | exact Or.inr ⟨rfl, rfl⟩) (c_hasRoom (d + 1) L k b st hP hL (by omega)) ?_
    refine w_if_ne rfl (fun h2 => ?_) (fun h2 => ?_)
    · replace h2 := pI_ne.mp h2
      refine w_blk 4 (pc' := 32) (ls' := [some (.ref 0), some (.long v), none, some (.int (nI k))]) (sk' := [.int (nI k), .long v, .ref 1]) (st' := st) (fun _ h => h) ?_
      obtain ⟨s1, hc_2, hP_3, hf_4, hk_5⟩ := c_append (d + 0) v L b k st hP (by omega) (by omega)
      refine w_callV (As := [.ref 1, .long v, .int (nI k)]) (rest := []) rfl rfl rfl (Nat.le_of_ble_eq_true rfl) (Nat.le_of_ble_eq_true rfl) (by first | exact Or.inl ⟨rfl, rfl⟩ | exact Or.inr ⟨rfl, rfl⟩) hc_2 ?_
      refine w_blk 3 (pc' := 42) (ls' := [some (.ref 0), some (.long v), none, some (.int (nI k))]) (sk' := [.int (s1.1 1 0)]) (st' := s1) (fun _ h => h) ?_
      rw [hP_3.1]
      exact w_iret rfl rfl rfl (by have hh := hq s1; rw [show sp_type L (nI k) = nI (L + k) from (if_pos hok).trans (by rw [ec, if_pos h2]), show ty_n L (nI k) = k from (if_pos ⟨hok, by rw [ec]; exact h2⟩).trans ec] at hh; exact hh ⟨hP_3, hf_4, hk_5⟩)
    · replace h2 := pI_eq0.mp (Decidable.not_not.mp h2)
      refine w_blk 1 (pc' := 25) (ls' := [some (.ref 0), some (.long v), none, some (.int (nI k))]) (sk' := [.int (-3)]) (st' := st) (fun _ h => h) ?_
      exact w_iret rfl rfl rfl (by have hh := hq st; rw [show sp_type L (nI k) = -3 from (if_pos hok).trans (if_neg (by rw [ec]; exact h2)), show ty_n L (nI k) = 0 from if_neg (fun e => h2 (by have := e.2; rw [ec] at this; exact this))] at hh; exact hh ⟨hP, Fr.rf, Fk.rf⟩)
  · replace h1 := pI_eq0.mp (Decidable.not_not.mp h1)
    refine w_blk 1 (pc' := 11) (ls' := [some (.ref 0), some (.long v), none, some (.int n)]) (sk' := [.int (-1)]) (st' := st) (fun _ h => h) ?_
    have hno : ¬ (1 ≤ n ∧ n ≤ 8) := h1
    exact w_iret rfl rfl rfl (by have hh := hq st; rw [show sp_type L n = -1 from if_neg hno, show ty_n L n = 0 from if_neg (fun e => hno e.1)] at hh; exact hh ⟨hP, Fr.rf, Fk.rf⟩)
set_option maxRecDepth 20000 in
/-- type -/
theorem m_type (d : Nat) (v : Int64) (n : Int32) (L : Nat) (b : Nat → Nat) (st : mSt) (hP : MS st L b) (hL : L ≤ 300) : ∃ (s : mSt), mMC mT (d + 2) 131 [.ref 53, .long v, .int n] st (some (.int (sp_type L n))) s ∧ MS s (L + ty_n L n) (app b L v (ty_n L n)) ∧ Fr [53, 54] st s ∧ Fk 53 [2] st s := by
  suffices H : ∀ Q : Option Value → mSt → Prop, (∀ (s : mSt), (MS s (L + ty_n L n) (app b L v (ty_n L n)) ∧ Fr [53, 54] st s ∧ Fk 53 [2] st s) → Q (some (.int (sp_type L n))) s) → mW (mMC mT (d + 1)) (0, fun _ => 0) (mAtL P_X10_type) (some .int) Q 0 [some (.ref 53), some (.long v), none, some (.int n), none] [] st by
    obtain ⟨_, _, ⟨s, rfl, rfl, hp⟩, hw⟩ := mW_ex (H (fun vv tt => ∃ (s : mSt),  vv = some (.int (sp_type L n)) ∧ s = tt ∧ MS s (L + ty_n L n) (app b L v (ty_n L n)) ∧ Fr [53, 54] st s ∧ Fk 53 [2] st s) (fun s hp => ⟨s, rfl, rfl, hp⟩))
    exact ⟨s, mI_X10_type (d := d + 1) (Nat.le_of_ble_eq_true rfl) hw, hp⟩
  intro Q hq
  refine w_blk 3 (pc' := 4) (ls' := [some (.ref 53), some (.long v), none, some (.int n), none]) (sk' := [.int 8, .int 1, .int n]) (st' := st) (fun _ h => h) ?_
  refine w_callS (As := [.int n, .int 1, .int 8]) (rest := []) rfl rfl rfl (Nat.le_of_ble_eq_true rfl) (Nat.le_of_ble_eq_true rfl) (m_in (d + 0) n 1 8 st) ?_
  refine w_if_ne rfl (fun h1 => ?_) (fun h1 => ?_)
  · replace h1 := pI_ne.mp h1
    have hok : 1 ≤ n ∧ n ≤ 8 := h1
    obtain ⟨k, hk1, hk8, rfl⟩ := nI_within (a := 1) (b := 8) h1 (by decide) (by decide)
    have ec := nI_clamp (show k < 2 ^ 31 by omega)
    refine w_blk 2 (pc' := 16) (ls' := [some (.ref 53), some (.long v), none, some (.int (nI k)), none]) (sk' := [.int (st.1 53 2)]) (st' := st) (fun _ h => h) ?_
    rw [hP.1]
    refine w_blk 2 (pc' := 18) (ls' := [some (.ref 53), some (.long v), none, some (.int (nI k)), none]) (sk' := [.int ((nI L) + (nI k))]) (st' := st) (fun _ h => h) ?_
    rw [show ((nI L) + (nI k)) = nI (L + k) from nI_add L k]
    refine w_blk 1 (pc' := 21) (ls' := [some (.ref 53), some (.long v), none, some (.int (nI k)), none]) (sk' := [.int 300, .int (nI (L + k))]) (st' := st) (fun _ h => h) ?_
    refine w_cmp_le rfl (fun h2 => ?_) (fun h2 => ?_)
    · replace h2 : L + k ≤ 300 := (nI_leI (a := (L + k)) (b := 300) (by omega) (by omega)).mp h2
      refine w_blk 4 (pc' := 32) (ls' := [some (.ref 53), some (.long v), none, some (.int (nI k)), some (.int ((nI k) - 1))]) (sk' := []) (st' := st) (fun _ h => h) ?_
      suffices key : ∀ (q L' : Nat) (b' : Nat → Nat) (s0 : mSt), MS s0 L' b' → L' + q ≤ 300 → q ≤ 8 → (∀ s : mSt, (MS s (L' + q) (app b' L' v q) ∧ Fr [53, 54] s0 s ∧ Fk 53 [2] s0 s) → Q (some (.int (nI (L' + q)))) s) → mW (mMC mT (d + 1)) (0, fun _ => 0) (mAtL P_X10_type) (some .int) Q 32 [some (.ref 53), some (.long v), none, some (.int (nI k)), some (.int ((nI q) - 1))] [] s0 from key k L b st hP (by omega) hk8 (fun s hs => by have hh := hq s; rw [show sp_type L (nI k) = nI (L + k) from (if_pos hok).trans (by rw [ec, if_pos h2]), show ty_n L (nI k) = k from (if_pos ⟨hok, by rw [ec]; exact h2⟩).trans ec] at hh; exact hh hs)
      intro q
      induction q with
      | zero =>
        intro L' b' s0 hP2 hL2 hk2 hq2
        refine w_blk 1 (pc' := 34) (ls' := [some (.ref 53), some (.long v), none, some (.int (nI k)), some (.int ((nI 0) - 1))]) (sk' := [.int ((nI 0) - 1)]) (st' := s0) (fun _ h => h) ?_
        refine w_if_lt rfl (fun _ => ?_) (fun hno => absurd (show nI 0 - 1 < 0 by decide) hno)
        refine w_blk 2 (pc' := 79) (ls' := [some (.ref 53), some (.long v), none, some (.int (nI k)), some (.int ((nI 0) - 1))]) (sk' := [.int (s0.1 53 2)]) (st' := s0) (fun _ h => h) ?_
        rw [hP2.1]
        exact w_iret rfl rfl rfl (hq2 _ ⟨hP2, Fr.rf, Fk.rf⟩)
      | succ q ih =>
        intro L' b' s0 hP2 hL2 hk2 hq2
        rw [nI_pred]
        refine w_blk 1 (pc' := 34) (ls' := [some (.ref 53), some (.long v), none, some (.int (nI k)), some (.int (nI q))]) (sk' := [.int (nI q)]) (st' := s0) (fun _ h => h) ?_
        refine w_if_lt rfl (fun hno => absurd hno (nI_pos (show q < 2 ^ 31 by omega))) (fun _ => ?_)
        refine w_blk 4 (pc' := 45) (ls' := [some (.ref 53), some (.long v), none, some (.int (nI k)), some (.int (nI q))]) (sk' := [.int (s0.1 53 2), .ref 54]) (st' := s0) (fun _ h => h) ?_
        rw [hP2.1]
        refine w_blk 4 (pc' := 51) (ls' := [some (.ref 53), some (.long v), none, some (.int (nI k)), some (.int (nI q))]) (sk' := [.int (8 * (nI q)), .long v, .int (nI L'), .ref 54]) (st' := s0) (fun _ h => h) ?_
        rw [show (8 * (nI q)) = nI (8 * q) from pk_mul 8 q]
        refine w_blk 5 (pc' := 58) (ls' := [some (.ref 53), some (.long v), none, some (.int (nI k)), some (.int (nI q))]) (sk' := [.int (Int8.toInt32 (Int32.toInt8 (Int64.toInt32 ((v >>> (Int32.toInt64 (nI (8 * q)) &&& 63)) &&& 255)))), .int (nI L'), .ref 54]) (st' := s0) (fun _ h => h) ?_
        rw [m_byte v (show q < 8 by omega)]
        refine w_bast1 rfl rfl (vp_in_nI (n := L') (N := 300) (by omega) (by decide)) ?_
        rw [nI_clamp (show L' < 2 ^ 31 by omega)]
        rw [sb_nar]
        refine w_blk 3 (pc' := 64) (ls' := [some (.ref 53), some (.long v), none, some (.int (nI k)), some (.int (nI q))]) (sk' := [.int (s0.1 53 2), .ref 53]) (st' := ((mU s0.1 54 L' (sb (bv v q))), s0.2)) (fun _ h => h) ?_
        rw [hP2.1]
        refine w_blk 2 (pc' := 66) (ls' := [some (.ref 53), some (.long v), none, some (.int (nI k)), some (.int (nI q))]) (sk' := [.int ((nI L') + 1), .ref 53]) (st' := ((mU s0.1 54 L' (sb (bv v q))), s0.2)) (fun _ h => h) ?_
        rw [show ((nI L') + 1) = nI (L' + 1) from nI_add L' 1]
        refine w_blk 1 (pc' := 69) (ls' := [some (.ref 53), some (.long v), none, some (.int (nI k)), some (.int (nI q))]) (sk' := []) (st' := ((mU (mU s0.1 54 L' (sb (bv v q))) 53 2 (nI (L' + 1))), s0.2)) (fun _ h => h) ?_
        refine w_iinc (y := ((nI q) - 1)) (ls' := [some (.ref 53), some (.long v), none, some (.int (nI k)), some (.int ((nI q) - 1))]) rfl rfl rfl (i_m1 _) rfl ?_
        refine w_blk 1 (pc' := 32) (ls' := [some (.ref 53), some (.long v), none, some (.int (nI k)), some (.int ((nI q) - 1))]) (sk' := []) (st' := ((mU (mU s0.1 54 L' (sb (bv v q))) 53 2 (nI (L' + 1))), s0.2)) (fun _ h => h) ?_
        refine ih (L' + 1) (updN b' L' (bv v q)) ((mU (mU s0.1 54 L' (sb (bv v q))) 53 2 (nI (L' + 1))), s0.2) (MS_add hP2 _) (by omega) (by omega) (fun s hs => ?_)
        rw [show L' + 1 + q = L' + (q + 1) by omega, ← app_s] at hs
        rw [show L' + 1 + q = L' + (q + 1) by omega]
        exact hq2 s ⟨hs.1, Fr.trans (Fr.trans (Fr.trans Fr.rf (Fr.mU (by decide))) (Fr.mU (by decide))) hs.2.1, Fk.trans (Fk.trans (Fk.wn (st := s0) (by decide)) (Fk.wr (st := (mU s0.1 54 L' (sb (bv v q)), s0.2)) (by decide))) hs.2.2⟩
    · replace h2 : ¬ (L + k ≤ 300) := fun hh => h2 ((nI_leI (a := (L + k)) (b := 300) (by omega) (by omega)).mpr hh)
      refine w_blk 1 (pc' := 26) (ls' := [some (.ref 53), some (.long v), none, some (.int (nI k)), none]) (sk' := [.int (-3)]) (st' := st) (fun _ h => h) ?_
      exact w_iret rfl rfl rfl (by have hh := hq st; rw [show sp_type L (nI k) = -3 from (if_pos hok).trans (if_neg (by rw [ec]; exact h2)), show ty_n L (nI k) = 0 from if_neg (fun e => h2 (by have := e.2; rw [ec] at this; exact this))] at hh; exact hh ⟨hP, Fr.rf, Fk.rf⟩)
  · replace h1 := pI_eq0.mp (Decidable.not_not.mp h1)
    refine w_blk 1 (pc' := 11) (ls' := [some (.ref 53), some (.long v), none, some (.int n), none]) (sk' := [.int (-1)]) (st' := st) (fun _ h => h) ?_
    have hno : ¬ (1 ≤ n ∧ n ≤ 8) := h1
    exact w_iret rfl rfl rfl (by have hh := hq st; rw [show sp_type L n = -1 from if_neg hno, show ty_n L n = 0 from if_neg (fun e => hno e.1)] at hh; exact hh ⟨hP, Fr.rf, Fk.rf⟩)
set_option maxRecDepth 20000 in
/-- clear, wipe -/
theorem c_wipe (d : Nat) (L : Nat) (b : Nat → Nat) (st : mSt) (hP : XS st L b) : ∃ (s : mSt), mMC mT (d + 1) 60 [.ref 1] st (some (.int (nI L))) s ∧ XS s 0 b ∧ Fr [1, 2] st s ∧ Fk 1 [0] st s := by
  suffices H : ∀ Q : Option Value → mSt → Prop, (∀ (s : mSt), (XS s 0 b ∧ Fr [1, 2] st s ∧ Fk 1 [0] st s) → Q (some (.int (nI L))) s) → mW (mMC mT (d + 0)) (0, fun _ => 0) (mAtL P_X7_wipe) (some .int) Q 0 [some (.ref 1), none] [] st by
    obtain ⟨_, _, ⟨s, rfl, rfl, hp⟩, hw⟩ := mW_ex (H (fun vv tt => ∃ (s : mSt),  vv = some (.int (nI L)) ∧ s = tt ∧ XS s 0 b ∧ Fr [1, 2] st s ∧ Fk 1 [0] st s) (fun s hp => ⟨s, rfl, rfl, hp⟩))
    exact ⟨s, mI_X7_wipe (d := d + 0) (Nat.le_of_ble_eq_true rfl) hw, hp⟩
  intro Q hq
  refine w_blk 2 (pc' := 4) (ls' := [some (.ref 1), none]) (sk' := [.int (st.1 1 0)]) (st' := st) (fun _ h => h) ?_
  rw [hP.1]
  refine w_blk 5 (pc' := 11) (ls' := [some (.ref 1), some (.int (nI L))]) (sk' := [.int (nI L)]) (st' := ((mU st.1 1 0 0), st.2)) (fun _ h => h) ?_
  exact w_iret rfl rfl rfl (hq _ ⟨⟨rfl, fun j hj => absurd hj (by omega)⟩, Fr.trans Fr.rf (Fr.mU (by decide)), Fk.wr (by decide)⟩)
set_option maxRecDepth 20000 in
/-- clear, wipe -/
theorem x_clear (d : Nat) (L : Nat) (b : Nat → Nat) (st : mSt) (hP : XS st L b) : ∃ (s : mSt), mMC mT (d + 2) 86 [.ref 0] st (some (.int (nI L))) s ∧ XS s 0 b ∧ Fr [1, 2] st s ∧ Fk 1 [0] st s := by
  suffices H : ∀ Q : Option Value → mSt → Prop, (∀ (s : mSt), (XS s 0 b ∧ Fr [1, 2] st s ∧ Fk 1 [0] st s) → Q (some (.int (nI L))) s) → mW (mMC mT (d + 1)) (0, fun _ => 0) (mAtL P_X9_clear) (some .int) Q 0 [some (.ref 0)] [] st by
    obtain ⟨_, _, ⟨s, rfl, rfl, hp⟩, hw⟩ := mW_ex (H (fun vv tt => ∃ (s : mSt),  vv = some (.int (nI L)) ∧ s = tt ∧ XS s 0 b ∧ Fr [1, 2] st s ∧ Fk 1 [0] st s) (fun s hp => ⟨s, rfl, rfl, hp⟩))
    exact ⟨s, mI_X9_clear (d := d + 1) (Nat.le_of_ble_eq_true rfl) hw, hp⟩
  intro Q hq
  refine w_blk 2 (pc' := 4) (ls' := [some (.ref 0)]) (sk' := [.ref 1]) (st' := st) (fun _ h => h) ?_
  obtain ⟨s1, hc_2, hP_3, hf_4, hk_5⟩ := c_wipe (d + 0) L b st hP
  refine w_callV (As := [.ref 1]) (rest := []) rfl rfl rfl (Nat.le_of_ble_eq_true rfl) (Nat.le_of_ble_eq_true rfl) (by first | exact Or.inl ⟨rfl, rfl⟩ | exact Or.inr ⟨rfl, rfl⟩) hc_2 ?_
  exact w_iret rfl rfl rfl (hq _ ⟨hP_3, hf_4, hk_5⟩)
set_option maxRecDepth 20000 in
/-- clear, wipe -/
theorem m_clear (d : Nat) (L : Nat) (b : Nat → Nat) (st : mSt) (hP : MS st L b) : ∃ (s : mSt), mMC mT (d + 1) 132 [.ref 53] st (some (.int (nI L))) s ∧ MS s 0 b ∧ Fr [53, 54] st s ∧ Fk 53 [2] st s := by
  suffices H : ∀ Q : Option Value → mSt → Prop, (∀ (s : mSt), (MS s 0 b ∧ Fr [53, 54] st s ∧ Fk 53 [2] st s) → Q (some (.int (nI L))) s) → mW (mMC mT (d + 0)) (0, fun _ => 0) (mAtL P_X10_clear) (some .int) Q 0 [some (.ref 53), none] [] st by
    obtain ⟨_, _, ⟨s, rfl, rfl, hp⟩, hw⟩ := mW_ex (H (fun vv tt => ∃ (s : mSt),  vv = some (.int (nI L)) ∧ s = tt ∧ MS s 0 b ∧ Fr [53, 54] st s ∧ Fk 53 [2] st s) (fun s hp => ⟨s, rfl, rfl, hp⟩))
    exact ⟨s, mI_X10_clear (d := d + 0) (Nat.le_of_ble_eq_true rfl) hw, hp⟩
  intro Q hq
  refine w_blk 2 (pc' := 4) (ls' := [some (.ref 53), none]) (sk' := [.int (st.1 53 2)]) (st' := st) (fun _ h => h) ?_
  rw [hP.1]
  refine w_blk 5 (pc' := 11) (ls' := [some (.ref 53), some (.int (nI L))]) (sk' := [.int (nI L)]) (st' := ((mU st.1 53 2 0), st.2)) (fun _ h => h) ?_
  exact w_iret rfl rfl rfl (hq _ ⟨⟨rfl, fun j hj => absurd hj (by omega)⟩, Fr.trans Fr.rf (Fr.mU (by decide)), Fk.wr (by decide)⟩)
end
