section
-- ===== PART A: goes FIRST, ahead of the names: the tables' words, and 'selects' of the private methods out of them =====
/-- a private method of a class that the tables say can be made, by its rows of tables_1 -/
def lw_okq (q : MethodName × Nat) : Prop := (q.1.cls ≠ "java/lang/invoke/MethodHandle" ∧ q.1.cls ≠ "java/lang/invoke/VarHandle") ∧ Cond.instantiable q.1.cls q.2 ∈ tables_1 ∧ Cond.privateMethod q.1 ∈ tables_1 ∧ Cond.instanceMethod q.1 ∈ tables_1
theorem lw_p0 : lw_okq (⟨"BeamSeats", "found", "(I)I"⟩, 7) := ⟨⟨by decide +kernel, by decide +kernel⟩, List.mem_of_getElem? (i := 14) (by decide +kernel), List.mem_of_getElem? (i := 170) (by decide +kernel), List.mem_of_getElem? (i := 171) (by decide +kernel)⟩
theorem lw_p1 : lw_okq (⟨"BeamSeats", "rowToSet", "(I)[I"⟩, 7) := ⟨⟨by decide +kernel, by decide +kernel⟩, List.mem_of_getElem? (i := 14) (by decide +kernel), List.mem_of_getElem? (i := 236) (by decide +kernel), List.mem_of_getElem? (i := 237) (by decide +kernel)⟩
theorem lw_p2 : lw_okq (⟨"BeamSeats", "secondsUntil", "(III)I"⟩, 7) := ⟨⟨by decide +kernel, by decide +kernel⟩, List.mem_of_getElem? (i := 14) (by decide +kernel), List.mem_of_getElem? (i := 343) (by decide +kernel), List.mem_of_getElem? (i := 344) (by decide +kernel)⟩
theorem lw_p3 : lw_okq (⟨"BeamSeats", "orNone", "(I)I"⟩, 7) := ⟨⟨by decide +kernel, by decide +kernel⟩, List.mem_of_getElem? (i := 14) (by decide +kernel), List.mem_of_getElem? (i := 353) (by decide +kernel), List.mem_of_getElem? (i := 354) (by decide +kernel)⟩
theorem lw_p4 : lw_okq (⟨"BeamSeats", "lostWithout", "(II)I"⟩, 7) := ⟨⟨by decide +kernel, by decide +kernel⟩, List.mem_of_getElem? (i := 14) (by decide +kernel), List.mem_of_getElem? (i := 389) (by decide +kernel), List.mem_of_getElem? (i := 390) (by decide +kernel)⟩
theorem lw_p5 : lw_okq (⟨"BeamSeats$Tape", "cutTokens", "()V"⟩, 7) := ⟨⟨by decide +kernel, by decide +kernel⟩, List.mem_of_getElem? (i := 89) (by decide +kernel), List.mem_of_getElem? (i := 417) (by decide +kernel), List.mem_of_getElem? (i := 418) (by decide +kernel)⟩
theorem lw_p6 : lw_okq (⟨"BeamSeats$Tape", "cutToken", "(II)I"⟩, 7) := ⟨⟨by decide +kernel, by decide +kernel⟩, List.mem_of_getElem? (i := 89) (by decide +kernel), List.mem_of_getElem? (i := 421) (by decide +kernel), List.mem_of_getElem? (i := 422) (by decide +kernel)⟩
theorem lw_p7 : lw_okq (⟨"BeamSeats$Tape", "wordAt", "(II)I"⟩, 7) := ⟨⟨by decide +kernel, by decide +kernel⟩, List.mem_of_getElem? (i := 89) (by decide +kernel), List.mem_of_getElem? (i := 428) (by decide +kernel), List.mem_of_getElem? (i := 429) (by decide +kernel)⟩
theorem lw_p8 : lw_okq (⟨"BeamSeats$Tape", "isSpelt", "(Ljava/lang/String;II)Z"⟩, 7) := ⟨⟨by decide +kernel, by decide +kernel⟩, List.mem_of_getElem? (i := 89) (by decide +kernel), List.mem_of_getElem? (i := 448) (by decide +kernel), List.mem_of_getElem? (i := 449) (by decide +kernel)⟩
theorem lw_p9 : lw_okq (⟨"BeamSeats$Tape", "numberAt", "(II)I"⟩, 7) := ⟨⟨by decide +kernel, by decide +kernel⟩, List.mem_of_getElem? (i := 89) (by decide +kernel), List.mem_of_getElem? (i := 503) (by decide +kernel), List.mem_of_getElem? (i := 504) (by decide +kernel)⟩
theorem lw_p10 : lw_okq (⟨"BeamSeats$Tape", "tellItem", "(LBeamSeats$Island;)Z"⟩, 7) := ⟨⟨by decide +kernel, by decide +kernel⟩, List.mem_of_getElem? (i := 89) (by decide +kernel), List.mem_of_getElem? (i := 508) (by decide +kernel), List.mem_of_getElem? (i := 509) (by decide +kernel)⟩
theorem lw_p11 : lw_okq (⟨"BeamSeats$Tape", "tellThing", "(LBeamSeats$Island;I)Z"⟩, 7) := ⟨⟨by decide +kernel, by decide +kernel⟩, List.mem_of_getElem? (i := 89) (by decide +kernel), List.mem_of_getElem? (i := 512) (by decide +kernel), List.mem_of_getElem? (i := 513) (by decide +kernel)⟩
theorem lw_p12 : lw_okq (⟨"BeamSeats$Tape", "numberBehind", "(II)Z"⟩, 7) := ⟨⟨by decide +kernel, by decide +kernel⟩, List.mem_of_getElem? (i := 89) (by decide +kernel), List.mem_of_getElem? (i := 516) (by decide +kernel), List.mem_of_getElem? (i := 517) (by decide +kernel)⟩
theorem lw_p13 : lw_okq (⟨"BeamSeats$Tape", "tellPart", "(II[II)Z"⟩, 7) := ⟨⟨by decide +kernel, by decide +kernel⟩, List.mem_of_getElem? (i := 89) (by decide +kernel), List.mem_of_getElem? (i := 522) (by decide +kernel), List.mem_of_getElem? (i := 523) (by decide +kernel)⟩
theorem lw_p14 : lw_okq (⟨"BeamSeats", "findingOfSheet", "(I)I"⟩, 7) := ⟨⟨by decide +kernel, by decide +kernel⟩, List.mem_of_getElem? (i := 14) (by decide +kernel), List.mem_of_getElem? (i := 539) (by decide +kernel), List.mem_of_getElem? (i := 540) (by decide +kernel)⟩
theorem lw_p15 : lw_okq (⟨"BeamSeats", "goesAsBooked", "(LBeamSeats$Sheet;I)Z"⟩, 7) := ⟨⟨by decide +kernel, by decide +kernel⟩, List.mem_of_getElem? (i := 14) (by decide +kernel), List.mem_of_getElem? (i := 572) (by decide +kernel), List.mem_of_getElem? (i := 573) (by decide +kernel)⟩
def lw_privs_1 : List (MethodName × Nat) := [(⟨"BeamSeats", "found", "(I)I"⟩, 7), (⟨"BeamSeats", "rowToSet", "(I)[I"⟩, 7), (⟨"BeamSeats", "secondsUntil", "(III)I"⟩, 7), (⟨"BeamSeats", "orNone", "(I)I"⟩, 7), (⟨"BeamSeats", "lostWithout", "(II)I"⟩, 7), (⟨"BeamSeats$Tape", "cutTokens", "()V"⟩, 7), (⟨"BeamSeats$Tape", "cutToken", "(II)I"⟩, 7), (⟨"BeamSeats$Tape", "wordAt", "(II)I"⟩, 7), (⟨"BeamSeats$Tape", "isSpelt", "(Ljava/lang/String;II)Z"⟩, 7), (⟨"BeamSeats$Tape", "numberAt", "(II)I"⟩, 7), (⟨"BeamSeats$Tape", "tellItem", "(LBeamSeats$Island;)Z"⟩, 7), (⟨"BeamSeats$Tape", "tellThing", "(LBeamSeats$Island;I)Z"⟩, 7), (⟨"BeamSeats$Tape", "numberBehind", "(II)Z"⟩, 7), (⟨"BeamSeats$Tape", "tellPart", "(II[II)Z"⟩, 7), (⟨"BeamSeats", "findingOfSheet", "(I)I"⟩, 7), (⟨"BeamSeats", "goesAsBooked", "(LBeamSeats$Sheet;I)Z"⟩, 7)]
theorem lw_r1 : ∀ q ∈ lw_privs_1, lw_okq q := List.forall_mem_cons.mpr ⟨lw_p0, List.forall_mem_cons.mpr ⟨lw_p1, List.forall_mem_cons.mpr ⟨lw_p2, List.forall_mem_cons.mpr ⟨lw_p3, List.forall_mem_cons.mpr ⟨lw_p4, List.forall_mem_cons.mpr ⟨lw_p5, List.forall_mem_cons.mpr ⟨lw_p6, List.forall_mem_cons.mpr ⟨lw_p7, List.forall_mem_cons.mpr ⟨lw_p8, List.forall_mem_cons.mpr ⟨lw_p9, List.forall_mem_cons.mpr ⟨lw_p10, List.forall_mem_cons.mpr ⟨lw_p11, List.forall_mem_cons.mpr ⟨lw_p12, List.forall_mem_cons.mpr ⟨lw_p13, List.forall_mem_cons.mpr ⟨lw_p14, List.forall_mem_cons.mpr ⟨lw_p15, fun _ h => absurd h List.not_mem_nil⟩⟩⟩⟩⟩⟩⟩⟩⟩⟩⟩⟩⟩⟩⟩⟩
theorem lw_p16 : lw_okq (⟨"BeamSeatsModel", "becomes", "(II)I"⟩, 15) := ⟨⟨by decide +kernel, by decide +kernel⟩, List.mem_of_getElem? (i := 599) (by decide +kernel), List.mem_of_getElem? (i := 658) (by decide +kernel), List.mem_of_getElem? (i := 659) (by decide +kernel)⟩
theorem lw_p17 : lw_okq (⟨"BeamSeatsModel", "finds", "(I)I"⟩, 15) := ⟨⟨by decide +kernel, by decide +kernel⟩, List.mem_of_getElem? (i := 599) (by decide +kernel), List.mem_of_getElem? (i := 663) (by decide +kernel), List.mem_of_getElem? (i := 664) (by decide +kernel)⟩
theorem lw_p18 : lw_okq (⟨"BeamSeatsModel", "setOf", "(I)I"⟩, 15) := ⟨⟨by decide +kernel, by decide +kernel⟩, List.mem_of_getElem? (i := 599) (by decide +kernel), List.mem_of_getElem? (i := 671) (by decide +kernel), List.mem_of_getElem? (i := 672) (by decide +kernel)⟩
theorem lw_p19 : lw_okq (⟨"BeamSeatsModel", "it", "(II)I"⟩, 15) := ⟨⟨by decide +kernel, by decide +kernel⟩, List.mem_of_getElem? (i := 599) (by decide +kernel), List.mem_of_getElem? (i := 675) (by decide +kernel), List.mem_of_getElem? (i := 676) (by decide +kernel)⟩
theorem lw_p20 : lw_okq (⟨"BeamSeatsModel", "allWeighs", "()I"⟩, 15) := ⟨⟨by decide +kernel, by decide +kernel⟩, List.mem_of_getElem? (i := 599) (by decide +kernel), List.mem_of_getElem? (i := 679) (by decide +kernel), List.mem_of_getElem? (i := 680) (by decide +kernel)⟩
theorem lw_p21 : lw_okq (⟨"BeamSeatsModel", "isOn", "(I)Z"⟩, 15) := ⟨⟨by decide +kernel, by decide +kernel⟩, List.mem_of_getElem? (i := 599) (by decide +kernel), List.mem_of_getElem? (i := 683) (by decide +kernel), List.mem_of_getElem? (i := 684) (by decide +kernel)⟩
theorem lw_p22 : lw_okq (⟨"BeamSeatsModel", "weighs", "(I)I"⟩, 15) := ⟨⟨by decide +kernel, by decide +kernel⟩, List.mem_of_getElem? (i := 599) (by decide +kernel), List.mem_of_getElem? (i := 687) (by decide +kernel), List.mem_of_getElem? (i := 688) (by decide +kernel)⟩
theorem lw_p23 : lw_okq (⟨"BeamSeatsModel", "bears", "(I)I"⟩, 15) := ⟨⟨by decide +kernel, by decide +kernel⟩, List.mem_of_getElem? (i := 599) (by decide +kernel), List.mem_of_getElem? (i := 695) (by decide +kernel), List.mem_of_getElem? (i := 696) (by decide +kernel)⟩
theorem lw_p24 : lw_okq (⟨"BeamSeatsModel", "loadAt", "(I)I"⟩, 15) := ⟨⟨by decide +kernel, by decide +kernel⟩, List.mem_of_getElem? (i := 599) (by decide +kernel), List.mem_of_getElem? (i := 702) (by decide +kernel), List.mem_of_getElem? (i := 703) (by decide +kernel)⟩
theorem lw_p25 : lw_okq (⟨"BeamSeatsModel", "comesAs", "(IIIII)I"⟩, 15) := ⟨⟨by decide +kernel, by decide +kernel⟩, List.mem_of_getElem? (i := 599) (by decide +kernel), List.mem_of_getElem? (i := 714) (by decide +kernel), List.mem_of_getElem? (i := 715) (by decide +kernel)⟩
theorem lw_p26 : lw_okq (⟨"BeamSeatsModel", "put", "(III)V"⟩, 15) := ⟨⟨by decide +kernel, by decide +kernel⟩, List.mem_of_getElem? (i := 599) (by decide +kernel), List.mem_of_getElem? (i := 718) (by decide +kernel), List.mem_of_getElem? (i := 719) (by decide +kernel)⟩
theorem lw_p27 : lw_okq (⟨"BeamSeatsModel", "isThing", "(I)Z"⟩, 15) := ⟨⟨by decide +kernel, by decide +kernel⟩, List.mem_of_getElem? (i := 599) (by decide +kernel), List.mem_of_getElem? (i := 726) (by decide +kernel), List.mem_of_getElem? (i := 727) (by decide +kernel)⟩
theorem lw_p28 : lw_okq (⟨"BeamSeatsModel", "dries", "(I)I"⟩, 15) := ⟨⟨by decide +kernel, by decide +kernel⟩, List.mem_of_getElem? (i := 599) (by decide +kernel), List.mem_of_getElem? (i := 730) (by decide +kernel), List.mem_of_getElem? (i := 731) (by decide +kernel)⟩
theorem lw_p29 : lw_okq (⟨"BeamSeatsModel", "isBorne", "(I)Z"⟩, 15) := ⟨⟨by decide +kernel, by decide +kernel⟩, List.mem_of_getElem? (i := 599) (by decide +kernel), List.mem_of_getElem? (i := 759) (by decide +kernel), List.mem_of_getElem? (i := 760) (by decide +kernel)⟩
theorem lw_p30 : lw_okq (⟨"BeamSeatsModel", "comesOn", "(I)V"⟩, 15) := ⟨⟨by decide +kernel, by decide +kernel⟩, List.mem_of_getElem? (i := 599) (by decide +kernel), List.mem_of_getElem? (i := 763) (by decide +kernel), List.mem_of_getElem? (i := 764) (by decide +kernel)⟩
theorem lw_p31 : lw_okq (⟨"BeamSeatsModel", "goesOff", "(II)V"⟩, 15) := ⟨⟨by decide +kernel, by decide +kernel⟩, List.mem_of_getElem? (i := 599) (by decide +kernel), List.mem_of_getElem? (i := 771) (by decide +kernel), List.mem_of_getElem? (i := 772) (by decide +kernel)⟩
def lw_privs_2 : List (MethodName × Nat) := [(⟨"BeamSeatsModel", "becomes", "(II)I"⟩, 15), (⟨"BeamSeatsModel", "finds", "(I)I"⟩, 15), (⟨"BeamSeatsModel", "setOf", "(I)I"⟩, 15), (⟨"BeamSeatsModel", "it", "(II)I"⟩, 15), (⟨"BeamSeatsModel", "allWeighs", "()I"⟩, 15), (⟨"BeamSeatsModel", "isOn", "(I)Z"⟩, 15), (⟨"BeamSeatsModel", "weighs", "(I)I"⟩, 15), (⟨"BeamSeatsModel", "bears", "(I)I"⟩, 15), (⟨"BeamSeatsModel", "loadAt", "(I)I"⟩, 15), (⟨"BeamSeatsModel", "comesAs", "(IIIII)I"⟩, 15), (⟨"BeamSeatsModel", "put", "(III)V"⟩, 15), (⟨"BeamSeatsModel", "isThing", "(I)Z"⟩, 15), (⟨"BeamSeatsModel", "dries", "(I)I"⟩, 15), (⟨"BeamSeatsModel", "isBorne", "(I)Z"⟩, 15), (⟨"BeamSeatsModel", "comesOn", "(I)V"⟩, 15), (⟨"BeamSeatsModel", "goesOff", "(II)V"⟩, 15)]
theorem lw_r2 : ∀ q ∈ lw_privs_2, lw_okq q := List.forall_mem_cons.mpr ⟨lw_p16, List.forall_mem_cons.mpr ⟨lw_p17, List.forall_mem_cons.mpr ⟨lw_p18, List.forall_mem_cons.mpr ⟨lw_p19, List.forall_mem_cons.mpr ⟨lw_p20, List.forall_mem_cons.mpr ⟨lw_p21, List.forall_mem_cons.mpr ⟨lw_p22, List.forall_mem_cons.mpr ⟨lw_p23, List.forall_mem_cons.mpr ⟨lw_p24, List.forall_mem_cons.mpr ⟨lw_p25, List.forall_mem_cons.mpr ⟨lw_p26, List.forall_mem_cons.mpr ⟨lw_p27, List.forall_mem_cons.mpr ⟨lw_p28, List.forall_mem_cons.mpr ⟨lw_p29, List.forall_mem_cons.mpr ⟨lw_p30, List.forall_mem_cons.mpr ⟨lw_p31, fun _ h => absurd h List.not_mem_nil⟩⟩⟩⟩⟩⟩⟩⟩⟩⟩⟩⟩⟩⟩⟩⟩
theorem lw_p32 : lw_okq (⟨"BeamSeatsModel", "goesFor", "(I)V"⟩, 15) := ⟨⟨by decide +kernel, by decide +kernel⟩, List.mem_of_getElem? (i := 599) (by decide +kernel), List.mem_of_getElem? (i := 780) (by decide +kernel), List.mem_of_getElem? (i := 781) (by decide +kernel)⟩
theorem lw_p33 : lw_okq (⟨"BeamSeatsModel", "goes", "()V"⟩, 15) := ⟨⟨by decide +kernel, by decide +kernel⟩, List.mem_of_getElem? (i := 599) (by decide +kernel), List.mem_of_getElem? (i := 784) (by decide +kernel), List.mem_of_getElem? (i := 785) (by decide +kernel)⟩
theorem lw_p34 : lw_okq (⟨"BeamSeatsModel", "passes", "(III)V"⟩, 15) := ⟨⟨by decide +kernel, by decide +kernel⟩, List.mem_of_getElem? (i := 599) (by decide +kernel), List.mem_of_getElem? (i := 788) (by decide +kernel), List.mem_of_getElem? (i := 789) (by decide +kernel)⟩
theorem lw_p35 : lw_okq (⟨"BeamSeatsModel", "getsOff", "(II)Z"⟩, 15) := ⟨⟨by decide +kernel, by decide +kernel⟩, List.mem_of_getElem? (i := 599) (by decide +kernel), List.mem_of_getElem? (i := 792) (by decide +kernel), List.mem_of_getElem? (i := 793) (by decide +kernel)⟩
theorem lw_p36 : lw_okq (⟨"BeamSeatsModel", "others", "(I)I"⟩, 15) := ⟨⟨by decide +kernel, by decide +kernel⟩, List.mem_of_getElem? (i := 599) (by decide +kernel), List.mem_of_getElem? (i := 796) (by decide +kernel), List.mem_of_getElem? (i := 797) (by decide +kernel)⟩
theorem lw_p37 : lw_okq (⟨"BeamSeatsModel", "getsOn", "(I)Z"⟩, 15) := ⟨⟨by decide +kernel, by decide +kernel⟩, List.mem_of_getElem? (i := 599) (by decide +kernel), List.mem_of_getElem? (i := 803) (by decide +kernel), List.mem_of_getElem? (i := 804) (by decide +kernel)⟩
theorem lw_p38 : lw_okq (⟨"BeamSeatsModel", "allDry", "()V"⟩, 15) := ⟨⟨by decide +kernel, by decide +kernel⟩, List.mem_of_getElem? (i := 599) (by decide +kernel), List.mem_of_getElem? (i := 807) (by decide +kernel), List.mem_of_getElem? (i := 808) (by decide +kernel)⟩
theorem lw_p39 : lw_okq (⟨"BeamSeatsModel", "thinks", "()V"⟩, 15) := ⟨⟨by decide +kernel, by decide +kernel⟩, List.mem_of_getElem? (i := 599) (by decide +kernel), List.mem_of_getElem? (i := 815) (by decide +kernel), List.mem_of_getElem? (i := 816) (by decide +kernel)⟩
theorem lw_p40 : lw_okq (⟨"BeamSeatsModel", "putsBack", "()V"⟩, 15) := ⟨⟨by decide +kernel, by decide +kernel⟩, List.mem_of_getElem? (i := 599) (by decide +kernel), List.mem_of_getElem? (i := 822) (by decide +kernel), List.mem_of_getElem? (i := 823) (by decide +kernel)⟩
theorem lw_p41 : lw_okq (⟨"BeamSeatsModel", "soIn", "(IIII)I"⟩, 15) := ⟨⟨by decide +kernel, by decide +kernel⟩, List.mem_of_getElem? (i := 599) (by decide +kernel), List.mem_of_getElem? (i := 834) (by decide +kernel), List.mem_of_getElem? (i := 835) (by decide +kernel)⟩
theorem lw_p42 : lw_okq (⟨"BeamSeatsModel", "orNone", "(I)I"⟩, 15) := ⟨⟨by decide +kernel, by decide +kernel⟩, List.mem_of_getElem? (i := 599) (by decide +kernel), List.mem_of_getElem? (i := 838) (by decide +kernel), List.mem_of_getElem? (i := 839) (by decide +kernel)⟩
theorem lw_p43 : lw_okq (⟨"BeamSeatsModel", "arrivesIn", "(II)I"⟩, 15) := ⟨⟨by decide +kernel, by decide +kernel⟩, List.mem_of_getElem? (i := 599) (by decide +kernel), List.mem_of_getElem? (i := 855) (by decide +kernel), List.mem_of_getElem? (i := 856) (by decide +kernel)⟩
theorem lw_p44 : lw_okq (⟨"BeamSeatsModel", "driest", "(IIIII)I"⟩, 15) := ⟨⟨by decide +kernel, by decide +kernel⟩, List.mem_of_getElem? (i := 599) (by decide +kernel), List.mem_of_getElem? (i := 863) (by decide +kernel), List.mem_of_getElem? (i := 864) (by decide +kernel)⟩
theorem lw_p45 : lw_okq (⟨"BeamSeatsModel", "reads", "()V"⟩, 15) := ⟨⟨by decide +kernel, by decide +kernel⟩, List.mem_of_getElem? (i := 599) (by decide +kernel), List.mem_of_getElem? (i := 899) (by decide +kernel), List.mem_of_getElem? (i := 900) (by decide +kernel)⟩
theorem lw_p46 : lw_okq (⟨"BeamSeatsModel", "isByte", "(III)Z"⟩, 15) := ⟨⟨by decide +kernel, by decide +kernel⟩, List.mem_of_getElem? (i := 599) (by decide +kernel), List.mem_of_getElem? (i := 903) (by decide +kernel), List.mem_of_getElem? (i := 904) (by decide +kernel)⟩
theorem lw_p47 : lw_okq (⟨"BeamSeatsModel", "wordHere", "()I"⟩, 15) := ⟨⟨by decide +kernel, by decide +kernel⟩, List.mem_of_getElem? (i := 599) (by decide +kernel), List.mem_of_getElem? (i := 907) (by decide +kernel), List.mem_of_getElem? (i := 908) (by decide +kernel)⟩
def lw_privs_3 : List (MethodName × Nat) := [(⟨"BeamSeatsModel", "goesFor", "(I)V"⟩, 15), (⟨"BeamSeatsModel", "goes", "()V"⟩, 15), (⟨"BeamSeatsModel", "passes", "(III)V"⟩, 15), (⟨"BeamSeatsModel", "getsOff", "(II)Z"⟩, 15), (⟨"BeamSeatsModel", "others", "(I)I"⟩, 15), (⟨"BeamSeatsModel", "getsOn", "(I)Z"⟩, 15), (⟨"BeamSeatsModel", "allDry", "()V"⟩, 15), (⟨"BeamSeatsModel", "thinks", "()V"⟩, 15), (⟨"BeamSeatsModel", "putsBack", "()V"⟩, 15), (⟨"BeamSeatsModel", "soIn", "(IIII)I"⟩, 15), (⟨"BeamSeatsModel", "orNone", "(I)I"⟩, 15), (⟨"BeamSeatsModel", "arrivesIn", "(II)I"⟩, 15), (⟨"BeamSeatsModel", "driest", "(IIIII)I"⟩, 15), (⟨"BeamSeatsModel", "reads", "()V"⟩, 15), (⟨"BeamSeatsModel", "isByte", "(III)Z"⟩, 15), (⟨"BeamSeatsModel", "wordHere", "()I"⟩, 15)]
theorem lw_r3 : ∀ q ∈ lw_privs_3, lw_okq q := List.forall_mem_cons.mpr ⟨lw_p32, List.forall_mem_cons.mpr ⟨lw_p33, List.forall_mem_cons.mpr ⟨lw_p34, List.forall_mem_cons.mpr ⟨lw_p35, List.forall_mem_cons.mpr ⟨lw_p36, List.forall_mem_cons.mpr ⟨lw_p37, List.forall_mem_cons.mpr ⟨lw_p38, List.forall_mem_cons.mpr ⟨lw_p39, List.forall_mem_cons.mpr ⟨lw_p40, List.forall_mem_cons.mpr ⟨lw_p41, List.forall_mem_cons.mpr ⟨lw_p42, List.forall_mem_cons.mpr ⟨lw_p43, List.forall_mem_cons.mpr ⟨lw_p44, List.forall_mem_cons.mpr ⟨lw_p45, List.forall_mem_cons.mpr ⟨lw_p46, List.forall_mem_cons.mpr ⟨lw_p47, fun _ h => absurd h List.not_mem_nil⟩⟩⟩⟩⟩⟩⟩⟩⟩⟩⟩⟩⟩⟩⟩⟩
theorem lw_p48 : lw_okq (⟨"BeamSeatsModel", "isName", "(II)Z"⟩, 15) := ⟨⟨by decide +kernel, by decide +kernel⟩, List.mem_of_getElem? (i := 599) (by decide +kernel), List.mem_of_getElem? (i := 911) (by decide +kernel), List.mem_of_getElem? (i := 912) (by decide +kernel)⟩
theorem lw_p49 : lw_okq (⟨"BeamSeatsModel", "item", "()V"⟩, 15) := ⟨⟨by decide +kernel, by decide +kernel⟩, List.mem_of_getElem? (i := 599) (by decide +kernel), List.mem_of_getElem? (i := 917) (by decide +kernel), List.mem_of_getElem? (i := 918) (by decide +kernel)⟩
theorem lw_p50 : lw_okq (⟨"BeamSeatsModel", "thingItem", "()V"⟩, 15) := ⟨⟨by decide +kernel, by decide +kernel⟩, List.mem_of_getElem? (i := 599) (by decide +kernel), List.mem_of_getElem? (i := 921) (by decide +kernel), List.mem_of_getElem? (i := 922) (by decide +kernel)⟩
theorem lw_p51 : lw_okq (⟨"BeamSeatsModel", "number", "(II)I"⟩, 15) := ⟨⟨by decide +kernel, by decide +kernel⟩, List.mem_of_getElem? (i := 599) (by decide +kernel), List.mem_of_getElem? (i := 925) (by decide +kernel), List.mem_of_getElem? (i := 926) (by decide +kernel)⟩
theorem lw_p52 : lw_okq (⟨"BeamSeatsModel", "perhaps", "(IIII)I"⟩, 15) := ⟨⟨by decide +kernel, by decide +kernel⟩, List.mem_of_getElem? (i := 599) (by decide +kernel), List.mem_of_getElem? (i := 929) (by decide +kernel), List.mem_of_getElem? (i := 930) (by decide +kernel)⟩
theorem lw_p53 : lw_okq (⟨"BeamSeatsModel", "passesBy", "(I)Z"⟩, 15) := ⟨⟨by decide +kernel, by decide +kernel⟩, List.mem_of_getElem? (i := 599) (by decide +kernel), List.mem_of_getElem? (i := 933) (by decide +kernel), List.mem_of_getElem? (i := 934) (by decide +kernel)⟩
theorem lw_p54 : lw_okq (⟨"BeamSeatsModel", "notThere", "(I)I"⟩, 15) := ⟨⟨by decide +kernel, by decide +kernel⟩, List.mem_of_getElem? (i := 599) (by decide +kernel), List.mem_of_getElem? (i := 949) (by decide +kernel), List.mem_of_getElem? (i := 950) (by decide +kernel)⟩
theorem lw_p55 : lw_okq (⟨"BeamSeatsModel", "notCopied", "(IIIII)I"⟩, 15) := ⟨⟨by decide +kernel, by decide +kernel⟩, List.mem_of_getElem? (i := 599) (by decide +kernel), List.mem_of_getElem? (i := 961) (by decide +kernel), List.mem_of_getElem? (i := 962) (by decide +kernel)⟩
theorem lw_p56 : lw_okq (⟨"BeamSeatsModel", "notAsked", "(II)I"⟩, 15) := ⟨⟨by decide +kernel, by decide +kernel⟩, List.mem_of_getElem? (i := 599) (by decide +kernel), List.mem_of_getElem? (i := 973) (by decide +kernel), List.mem_of_getElem? (i := 974) (by decide +kernel)⟩
theorem lw_p57 : lw_okq (⟨"BeamSeatsModel", "isBook", "(II)Z"⟩, 15) := ⟨⟨by decide +kernel, by decide +kernel⟩, List.mem_of_getElem? (i := 599) (by decide +kernel), List.mem_of_getElem? (i := 981) (by decide +kernel), List.mem_of_getElem? (i := 982) (by decide +kernel)⟩
theorem lw_p58 : lw_okq (⟨"BeamSeatsModel", "sums", "(I)I"⟩, 15) := ⟨⟨by decide +kernel, by decide +kernel⟩, List.mem_of_getElem? (i := 599) (by decide +kernel), List.mem_of_getElem? (i := 1001) (by decide +kernel), List.mem_of_getElem? (i := 1002) (by decide +kernel)⟩
def lw_privs_4 : List (MethodName × Nat) := [(⟨"BeamSeatsModel", "isName", "(II)Z"⟩, 15), (⟨"BeamSeatsModel", "item", "()V"⟩, 15), (⟨"BeamSeatsModel", "thingItem", "()V"⟩, 15), (⟨"BeamSeatsModel", "number", "(II)I"⟩, 15), (⟨"BeamSeatsModel", "perhaps", "(IIII)I"⟩, 15), (⟨"BeamSeatsModel", "passesBy", "(I)Z"⟩, 15), (⟨"BeamSeatsModel", "notThere", "(I)I"⟩, 15), (⟨"BeamSeatsModel", "notCopied", "(IIIII)I"⟩, 15), (⟨"BeamSeatsModel", "notAsked", "(II)I"⟩, 15), (⟨"BeamSeatsModel", "isBook", "(II)Z"⟩, 15), (⟨"BeamSeatsModel", "sums", "(I)I"⟩, 15)]
theorem lw_r4 : ∀ q ∈ lw_privs_4, lw_okq q := List.forall_mem_cons.mpr ⟨lw_p48, List.forall_mem_cons.mpr ⟨lw_p49, List.forall_mem_cons.mpr ⟨lw_p50, List.forall_mem_cons.mpr ⟨lw_p51, List.forall_mem_cons.mpr ⟨lw_p52, List.forall_mem_cons.mpr ⟨lw_p53, List.forall_mem_cons.mpr ⟨lw_p54, List.forall_mem_cons.mpr ⟨lw_p55, List.forall_mem_cons.mpr ⟨lw_p56, List.forall_mem_cons.mpr ⟨lw_p57, List.forall_mem_cons.mpr ⟨lw_p58, fun _ h => absurd h List.not_mem_nil⟩⟩⟩⟩⟩⟩⟩⟩⟩⟩⟩
def lw_privs : List (MethodName × Nat) := lw_privs_1 ++ (lw_privs_2 ++ (lw_privs_3 ++ (lw_privs_4)))
def lw_tbl : List Cond := k2_sels lw_privs ++ tables_1
theorem lw_privs_ok : ∀ q ∈ lw_privs, lw_okq q := by
  show ∀ q ∈ lw_privs_1 ++ (lw_privs_2 ++ (lw_privs_3 ++ (lw_privs_4))), lw_okq q
  exact List.forall_mem_append.mpr ⟨lw_r1, List.forall_mem_append.mpr ⟨lw_r2, List.forall_mem_append.mpr ⟨lw_r3, lw_r4⟩⟩⟩
end
section
/-! ===== BEGIN words of one list among another's, by their places ===== -/
theorem goodIn_r {big : List Cond} (ws : List Cond) (ps : List Nat) (hp : ws = ps.filterMap (fun i => big[i]?)) (h : ws.all goodWord = true) : GoodIn big ws := by
  intro w hw
  have h1 := List.all_eq_true.mp h w hw
  rw [hp] at hw
  obtain ⟨i, -, hi⟩ := List.mem_filterMap.mp hw
  have hm : w ∈ big := by first | exact List.mem_of_getElem? hi | exact List.getElem?_mem hi
  exact ⟨hm, good_of_word h1⟩
theorem goodIn_app {big a b : List Cond} (ha : GoodIn big a) (hb : GoodIn big b) : GoodIn big (a ++ b) := fun w h => (List.mem_append.mp h).elim (ha w) (hb w)
theorem goodIn_ca {big a b : List Cond} {c : Cond} (ha : GoodIn big (c :: a)) (hb : GoodIn big b) : GoodIn big (c :: (a ++ b)) := fun w h => (List.mem_cons.mp h).elim (fun e => ha w (List.mem_cons.mpr (Or.inl e))) (fun h => (List.mem_append.mp h).elim (fun h => ha w (List.mem_cons.mpr (Or.inr h))) (hb w))
theorem goodIn_sub {big ws : List Cond} (hm : ∀ w ∈ ws, w ∈ big) (h : ws.all goodWord = true) : GoodIn big ws := fun w hw => ⟨hm w hw, good_of_word (List.all_eq_true.mp h w hw)⟩
/-! ===== END ===== -/

/-! ===== BEGIN printed: names, fields, word lists, decode rows ===== -/
def RX0 : String := "BeamSeats$Island"
def TX0 : u_T := fun k => match k with
  | 0 => ("BeamSeats$Island", "second", "I", false)
  | 1 => ("BeamSeats$Island", "bearing", "I", false)
  | 2 => ("BeamSeats$Island", "speed", "I", false)
  | 3 => ("BeamSeats$Island", "thick", "I", false)
  | 4 => ("BeamSeats$Island", "size", "I", false)
  | 5 => ("BeamSeats$Island", "onSet", "I", false)
  | 6 => ("BeamSeats$Island", "lostSet", "I", false)
  | 7 => ("BeamSeats$Island", "kinds", "[I", true)
  | 8 => ("BeamSeats$Island", "places", "[I", true)
  | 9 => ("BeamSeats$Island", "outs", "[I", true)
  | 10 => ("BeamSeats$Island", "wets", "[I", true)
  | 11 => ("BeamSeats$Island", "goals", "[I", true)
  | _ => ("BeamSeats$Island", "times", "[I", true)
def tyX0 : Nat → FieldType := fun k => match k with
  | 0 => .int
  | 1 => .int
  | 2 => .int
  | 3 => .int
  | 4 => .int
  | 5 => .int
  | 6 => .int
  | 7 => .array .int
  | 8 => .array .int
  | 9 => .array .int
  | 10 => .array .int
  | 11 => .array .int
  | _ => .array .int
abbrev wsX00 : List Cond := u_ws RX0 TX0 13
theorem nmX0 : ∀ a, a < 13 → ∀ b, b < 13 → a ≠ b → (TX0 a).2.1 ≠ (TX0 b).2.1 := by decide +kernel
theorem tyX0_ok : ∀ k, k < 13 → parseFieldDescriptor (TX0 k).2.2.1 = some (tyX0 k) := by decide +kernel
abbrev cX0_init : ByteArray := prog_2_method_1_code
def yX0_init : MethodName := ⟨RX0, "<init>", "()V"⟩
abbrev cX0_becomes : ByteArray := prog_2_method_2_code
def yX0_becomes : MethodName := ⟨RX0, "becomes", "(LBeamSeats$Island;)V"⟩
abbrev cX0_has : ByteArray := prog_2_method_3_code
def yX0_has : MethodName := ⟨RX0, "has", "(I)Z"⟩
abbrev cX0_isOn : ByteArray := prog_2_method_4_code
def yX0_isOn : MethodName := ⟨RX0, "isOn", "(I)Z"⟩
abbrev cX0_isLost : ByteArray := prog_2_method_5_code
def yX0_isLost : MethodName := ⟨RX0, "isLost", "(I)Z"⟩
abbrev cX0_add : ByteArray := prog_2_method_6_code
def yX0_add : MethodName := ⟨RX0, "add", "(II)I"⟩
abbrev cX0_weightOf : ByteArray := prog_2_method_7_code
def yX0_weightOf : MethodName := ⟨RX0, "weightOf", "(I)I"⟩
abbrev cX0_weightAt : ByteArray := prog_2_method_8_code
def yX0_weightAt : MethodName := ⟨RX0, "weightAt", "(I)I"⟩
abbrev cX0_weightOfAll : ByteArray := prog_2_method_9_code
def yX0_weightOfAll : MethodName := ⟨RX0, "weightOfAll", "()I"⟩
abbrev cX0_bears : ByteArray := prog_2_method_10_code
def yX0_bears : MethodName := ⟨RX0, "bears", "(I)I"⟩
abbrev cX0_isBorne : ByteArray := prog_2_method_11_code
def yX0_isBorne : MethodName := ⟨RX0, "isBorne", "(I)Z"⟩
abbrev cX0_getsOn : ByteArray := prog_2_method_12_code
def yX0_getsOn : MethodName := ⟨RX0, "getsOn", "(I)Z"⟩
abbrev cX0_getsOff : ByteArray := prog_2_method_13_code
def yX0_getsOff : MethodName := ⟨RX0, "getsOff", "(I)Z"⟩
abbrev cX0_dries : ByteArray := prog_2_method_14_code
def yX0_dries : MethodName := ⟨RX0, "dries", "(I)I"⟩
abbrev cX0_comeOn : ByteArray := prog_2_method_15_code
def yX0_comeOn : MethodName := ⟨RX0, "comeOn", "(I)V"⟩
abbrev cX0_goOff : ByteArray := prog_2_method_16_code
def yX0_goOff : MethodName := ⟨RX0, "goOff", "(I)V"⟩
abbrev cX0_goSeconds : ByteArray := prog_2_method_17_code
def yX0_goSeconds : MethodName := ⟨RX0, "goSeconds", "(I)V"⟩
abbrev cX0_passBearing : ByteArray := prog_2_method_18_code
def yX0_passBearing : MethodName := ⟨RX0, "passBearing", "(I)V"⟩
abbrev cX0_leaveOrBeLost : ByteArray := prog_2_method_19_code
def yX0_leaveOrBeLost : MethodName := ⟨RX0, "leaveOrBeLost", "(I)V"⟩
abbrev cX0_dryAndRide : ByteArray := prog_2_method_20_code
def yX0_dryAndRide : MethodName := ⟨RX0, "dryAndRide", "()V"⟩
abbrev cX0_isSo : ByteArray := prog_2_method_21_code
def yX0_isSo : MethodName := ⟨RX0, "isSo", "(II)Z"⟩
def RX1 : String := "BeamSeats$Sheet"
def TX1 : u_T := fun k => match k with
  | 0 => ("BeamSeats$Sheet", "bits", "I", false)
  | 1 => ("BeamSeats$Sheet", "size", "I", false)
  | _ => ("BeamSeats$Sheet", "numbers", "[J", true)
def tyX1 : Nat → FieldType := fun k => match k with
  | 0 => .int
  | 1 => .int
  | _ => .array .long
abbrev wsX10 : List Cond := u_ws RX1 TX1 3
theorem nmX1 : ∀ a, a < 3 → ∀ b, b < 3 → a ≠ b → (TX1 a).2.1 ≠ (TX1 b).2.1 := by decide +kernel
theorem tyX1_ok : ∀ k, k < 3 → parseFieldDescriptor (TX1 k).2.2.1 = some (tyX1 k) := by decide +kernel
abbrev cX1_init : ByteArray := prog_3_method_1_code
def yX1_init : MethodName := ⟨RX1, "<init>", "()V"⟩
abbrev cX1_renew : ByteArray := prog_3_method_2_code
def yX1_renew : MethodName := ⟨RX1, "renew", "(II)V"⟩
abbrev cX1_put : ByteArray := prog_3_method_3_code
def yX1_put : MethodName := ⟨RX1, "put", "(IJ)V"⟩
abbrev cX1_hasNumbers : ByteArray := prog_3_method_4_code
def yX1_hasNumbers : MethodName := ⟨RX1, "hasNumbers", "(II)Z"⟩
def RX2 : String := "BeamSeats$Tape"
def TX2 : u_T := fun k => match k with
  | 0 => ("BeamSeats$Tape", "bytes", "[B", true)
  | 1 => ("BeamSeats$Tape", "size", "I", false)
  | 2 => ("BeamSeats$Tape", "tokens", "[I", true)
  | 3 => ("BeamSeats$Tape", "starts", "[I", true)
  | 4 => ("BeamSeats$Tape", "values", "[I", true)
  | 5 => ("BeamSeats$Tape", "next", "I", false)
  | _ => ("BeamSeats$Tape", "number", "I", false)
def tyX2 : Nat → FieldType := fun k => match k with
  | 0 => .array .byte
  | 1 => .int
  | 2 => .array .int
  | 3 => .array .int
  | 4 => .array .int
  | 5 => .int
  | _ => .int
abbrev wsX20 : List Cond := u_ws RX2 TX2 7
theorem nmX2 : ∀ a, a < 7 → ∀ b, b < 7 → a ≠ b → (TX2 a).2.1 ≠ (TX2 b).2.1 := by decide +kernel
theorem tyX2_ok : ∀ k, k < 7 → parseFieldDescriptor (TX2 k).2.2.1 = some (tyX2 k) := by decide +kernel
abbrev cX2_init : ByteArray := prog_4_method_1_code
def yX2_init : MethodName := ⟨RX2, "<init>", "()V"⟩
abbrev cX2_append : ByteArray := prog_4_method_2_code
def yX2_append : MethodName := ⟨RX2, "append", "(B)V"⟩
abbrev cX2_tell : ByteArray := prog_4_method_3_code
def yX2_tell : MethodName := ⟨RX2, "tell", "(LBeamSeats$Island;)I"⟩
abbrev cX2_tellItem : ByteArray := prog_4_method_4_code
def yX2_tellItem : MethodName := ⟨RX2, "tellItem", "(LBeamSeats$Island;)Z"⟩
abbrev cX2_tellThing : ByteArray := prog_4_method_5_code
def yX2_tellThing : MethodName := ⟨RX2, "tellThing", "(LBeamSeats$Island;I)Z"⟩
abbrev cX2_tellPart : ByteArray := prog_4_method_6_code
def yX2_tellPart : MethodName := ⟨RX2, "tellPart", "(II[II)Z"⟩
abbrev cX2_numberBehind : ByteArray := prog_4_method_7_code
def yX2_numberBehind : MethodName := ⟨RX2, "numberBehind", "(II)Z"⟩
abbrev cX2_cutTokens : ByteArray := prog_4_method_8_code
def yX2_cutTokens : MethodName := ⟨RX2, "cutTokens", "()V"⟩
abbrev cX2_cutToken : ByteArray := prog_4_method_9_code
def yX2_cutToken : MethodName := ⟨RX2, "cutToken", "(II)I"⟩
abbrev cX2_wordAt : ByteArray := prog_4_method_10_code
def yX2_wordAt : MethodName := ⟨RX2, "wordAt", "(II)I"⟩
abbrev cX2_numberAt : ByteArray := prog_4_method_11_code
def yX2_numberAt : MethodName := ⟨RX2, "numberAt", "(II)I"⟩
abbrev cX2_isSpelt : ByteArray := prog_4_method_12_code
def yX2_isSpelt : MethodName := ⟨RX2, "isSpelt", "(Ljava/lang/String;II)Z"⟩
abbrev cX2_wordOf : ByteArray := prog_4_method_13_code
def yX2_wordOf : MethodName := ⟨RX2, "wordOf", "(I)Ljava/lang/String;"⟩
abbrev cX2_isLetter : ByteArray := prog_4_method_14_code
def yX2_isLetter : MethodName := ⟨RX2, "isLetter", "(I)Z"⟩
abbrev cX2_isDigit : ByteArray := prog_4_method_15_code
def yX2_isDigit : MethodName := ⟨RX2, "isDigit", "(I)Z"⟩
def RX3 : String := "BeamSeats"
def TX3 : u_T := fun k => match k with
  | 0 => ("BeamSeats", "real", "LBeamSeats$Island;", true)
  | 1 => ("BeamSeats", "trial", "LBeamSeats$Island;", true)
  | 2 => ("BeamSeats", "kept", "LBeamSeats$Island;", true)
  | 3 => ("BeamSeats", "isKept", "Z", false)
  | 4 => ("BeamSeats", "tape", "LBeamSeats$Tape;", true)
  | 5 => ("BeamSeats", "sheets", "[LBeamSeats$Sheet;", true)
  | _ => ("BeamSeats", "findings", "[I", true)
def tyX3 : Nat → FieldType := fun k => match k with
  | 0 => .object "BeamSeats$Island"
  | 1 => .object "BeamSeats$Island"
  | 2 => .object "BeamSeats$Island"
  | 3 => .boolean
  | 4 => .object "BeamSeats$Tape"
  | 5 => .array (.object "BeamSeats$Sheet")
  | _ => .array .int
abbrev wsX30 : List Cond := u_ws RX3 TX3 7
theorem nmX3 : ∀ a, a < 7 → ∀ b, b < 7 → a ≠ b → (TX3 a).2.1 ≠ (TX3 b).2.1 := by decide +kernel
theorem tyX3_ok : ∀ k, k < 7 → parseFieldDescriptor (TX3 k).2.2.1 = some (tyX3 k) := by decide +kernel
abbrev cX3_init : ByteArray := prog_1_method_1_code
def yX3_init : MethodName := ⟨RX3, "<init>", "()V"⟩
abbrev cX3_beam : ByteArray := prog_1_method_2_code
def yX3_beam : MethodName := ⟨RX3, "beam", "(II)I"⟩
abbrev cX3_now : ByteArray := prog_1_method_3_code
def yX3_now : MethodName := ⟨RX3, "now", "(I)I"⟩
abbrev cX3_load : ByteArray := prog_1_method_4_code
def yX3_load : MethodName := ⟨RX3, "load", "(II)I"⟩
abbrev cX3_thing : ByteArray := prog_1_method_5_code
def yX3_thing : MethodName := ⟨RX3, "thing", "(II)I"⟩
abbrev cX3_of : ByteArray := prog_1_method_6_code
def yX3_of : MethodName := ⟨RX3, "of", "(II)I"⟩
abbrev cX3_set : ByteArray := prog_1_method_7_code
def yX3_set : MethodName := ⟨RX3, "set", "(III)I"⟩
abbrev cX3_carry : ByteArray := prog_1_method_8_code
def yX3_carry : MethodName := ⟨RX3, "carry", "(II)I"⟩
abbrev cX3_turn : ByteArray := prog_1_method_9_code
def yX3_turn : MethodName := ⟨RX3, "turn", "(II)I"⟩
abbrev cX3_as : ByteArray := prog_1_method_10_code
def yX3_as : MethodName := ⟨RX3, "as", "(II)I"⟩
abbrev cX3_lay : ByteArray := prog_1_method_11_code
def yX3_lay : MethodName := ⟨RX3, "lay", "(I)I"⟩
abbrev cX3_take : ByteArray := prog_1_method_12_code
def yX3_take : MethodName := ⟨RX3, "take", "(I)I"⟩
abbrev cX3_seconds : ByteArray := prog_1_method_13_code
def yX3_seconds : MethodName := ⟨RX3, "seconds", "(I)I"⟩
abbrev cX3_on : ByteArray := prog_1_method_14_code
def yX3_on : MethodName := ⟨RX3, "on", "(III)I"⟩
abbrev cX3_then : ByteArray := prog_1_method_15_code
def yX3_then : MethodName := ⟨RX3, "then", "(II)I"⟩
abbrev cX3_gets : ByteArray := prog_1_method_16_code
def yX3_gets : MethodName := ⟨RX3, "gets", "(I)I"⟩
abbrev cX3_dry : ByteArray := prog_1_method_17_code
def yX3_dry : MethodName := ⟨RX3, "dry", "(I)I"⟩
abbrev cX3_lost : ByteArray := prog_1_method_18_code
def yX3_lost : MethodName := ⟨RX3, "lost", "(I)I"⟩
abbrev cX3_arrives : ByteArray := prog_1_method_19_code
def yX3_arrives : MethodName := ⟨RX3, "arrives", "(I)I"⟩
abbrev cX3_speed : ByteArray := prog_1_method_20_code
def yX3_speed : MethodName := ⟨RX3, "speed", "(II)I"⟩
abbrev cX3_far : ByteArray := prog_1_method_21_code
def yX3_far : MethodName := ⟨RX3, "far", "(II)I"⟩
abbrev cX3_kind : ByteArray := prog_1_method_22_code
def yX3_kind : MethodName := ⟨RX3, "kind", "(II)I"⟩
abbrev cX3_thick : ByteArray := prog_1_method_23_code
def yX3_thick : MethodName := ⟨RX3, "thick", "(II)I"⟩
abbrev cX3_save : ByteArray := prog_1_method_24_code
def yX3_save : MethodName := ⟨RX3, "save", "(I)I"⟩
abbrev cX3_goal : ByteArray := prog_1_method_25_code
def yX3_goal : MethodName := ⟨RX3, "goal", "(I)I"⟩
abbrev cX3_feed : ByteArray := prog_1_method_26_code
def yX3_feed : MethodName := ⟨RX3, "feed", "(II)I"⟩
abbrev cX3_wipe : ByteArray := prog_1_method_27_code
def yX3_wipe : MethodName := ⟨RX3, "wipe", "()I"⟩
abbrev cX3_island : ByteArray := prog_1_method_28_code
def yX3_island : MethodName := ⟨RX3, "island", "()I"⟩
abbrev cX3_sheet : ByteArray := prog_1_method_29_code
def yX3_sheet : MethodName := ⟨RX3, "sheet", "(III)I"⟩
abbrev cX3_write : ByteArray := prog_1_method_30_code
def yX3_write : MethodName := ⟨RX3, "write", "(IIJ)J"⟩
abbrev cX3_copy : ByteArray := prog_1_method_31_code
def yX3_copy : MethodName := ⟨RX3, "copy", "(IIIII)I"⟩
abbrev cX3_lays : ByteArray := prog_1_method_32_code
def yX3_lays : MethodName := ⟨RX3, "lays", "(I)I"⟩
abbrev cX3_book : ByteArray := prog_1_method_33_code
def yX3_book : MethodName := ⟨RX3, "book", "(II)I"⟩
abbrev cX3_read : ByteArray := prog_1_method_34_code
def yX3_read : MethodName := ⟨RX3, "read", "(II)I"⟩
abbrev cX3_image : ByteArray := prog_1_method_35_code
def yX3_image : MethodName := ⟨RX3, "image", "()I"⟩
abbrev cX3_undo : ByteArray := prog_1_method_36_code
def yX3_undo : MethodName := ⟨RX3, "undo", "()I"⟩
abbrev cX3_tear : ByteArray := prog_1_method_37_code
def yX3_tear : MethodName := ⟨RX3, "tear", "()I"⟩
abbrev cX3_count : ByteArray := prog_1_method_38_code
def yX3_count : MethodName := ⟨RX3, "count", "(I)I"⟩
abbrev cX3_status : ByteArray := prog_1_method_39_code
def yX3_status : MethodName := ⟨RX3, "status", "(I)I"⟩
abbrev cX3_found : ByteArray := prog_1_method_40_code
def yX3_found : MethodName := ⟨RX3, "found", "(I)I"⟩
abbrev cX3_orNone : ByteArray := prog_1_method_41_code
def yX3_orNone : MethodName := ⟨RX3, "orNone", "(I)I"⟩
abbrev cX3_within : ByteArray := prog_1_method_42_code
def yX3_within : MethodName := ⟨RX3, "within", "(III)Z"⟩
abbrev cX3_sum : ByteArray := prog_1_method_43_code
def yX3_sum : MethodName := ⟨RX3, "sum", "([II)I"⟩
abbrev cX3_isOfKind : ByteArray := prog_1_method_44_code
def yX3_isOfKind : MethodName := ⟨RX3, "isOfKind", "(II)Z"⟩
abbrev cX3_rowToSet : ByteArray := prog_1_method_45_code
def yX3_rowToSet : MethodName := ⟨RX3, "rowToSet", "(I)[I"⟩
abbrev cX3_mostToSet : ByteArray := prog_1_method_46_code
def yX3_mostToSet : MethodName := ⟨RX3, "mostToSet", "(I)I"⟩
abbrev cX3_secondsUntil : ByteArray := prog_1_method_47_code
def yX3_secondsUntil : MethodName := ⟨RX3, "secondsUntil", "(III)I"⟩
abbrev cX3_lostWithout : ByteArray := prog_1_method_48_code
def yX3_lostWithout : MethodName := ⟨RX3, "lostWithout", "(II)I"⟩
abbrev cX3_findingOfSheet : ByteArray := prog_1_method_49_code
def yX3_findingOfSheet : MethodName := ⟨RX3, "findingOfSheet", "(I)I"⟩
abbrev cX3_goesAsBooked : ByteArray := prog_1_method_50_code
def yX3_goesAsBooked : MethodName := ⟨RX3, "goesAsBooked", "(LBeamSeats$Sheet;I)Z"⟩
def RX4 : String := "BeamSeatsModel"
def TX4 : u_T := fun k => match k with
  | 0 => ("BeamSeatsModel", "m", "[I", true)
  | 1 => ("BeamSeatsModel", "kept", "[I", true)
  | 2 => ("BeamSeatsModel", "was", "[I", true)
  | 3 => ("BeamSeatsModel", "isKept", "Z", false)
  | 4 => ("BeamSeatsModel", "found", "[I", true)
  | 5 => ("BeamSeatsModel", "tape", "[I", true)
  | 6 => ("BeamSeatsModel", "taped", "I", false)
  | 7 => ("BeamSeatsModel", "token", "I", false)
  | 8 => ("BeamSeatsModel", "begin", "I", false)
  | 9 => ("BeamSeatsModel", "at", "I", false)
  | 10 => ("BeamSeatsModel", "value", "I", false)
  | 11 => ("BeamSeatsModel", "bad", "Z", false)
  | 12 => ("BeamSeatsModel", "bitsOf", "[I", true)
  | 13 => ("BeamSeatsModel", "sizeOf", "[I", true)
  | _ => ("BeamSeatsModel", "cells", "[J", true)
def tyX4 : Nat → FieldType := fun k => match k with
  | 0 => .array .int
  | 1 => .array .int
  | 2 => .array .int
  | 3 => .boolean
  | 4 => .array .int
  | 5 => .array .int
  | 6 => .int
  | 7 => .int
  | 8 => .int
  | 9 => .int
  | 10 => .int
  | 11 => .boolean
  | 12 => .array .int
  | 13 => .array .int
  | _ => .array .long
abbrev wsX40 : List Cond := u_ws RX4 TX4 15
theorem nmX4 : ∀ a, a < 15 → ∀ b, b < 15 → a ≠ b → (TX4 a).2.1 ≠ (TX4 b).2.1 := by decide +kernel
theorem tyX4_ok : ∀ k, k < 15 → parseFieldDescriptor (TX4 k).2.2.1 = some (tyX4 k) := by decide +kernel
abbrev cX4_init : ByteArray := prog_6_method_1_code
def yX4_init : MethodName := ⟨RX4, "<init>", "()V"⟩
abbrev cX4_finds : ByteArray := prog_6_method_2_code
def yX4_finds : MethodName := ⟨RX4, "finds", "(I)I"⟩
abbrev cX4_orNone : ByteArray := prog_6_method_3_code
def yX4_orNone : MethodName := ⟨RX4, "orNone", "(I)I"⟩
abbrev cX4_in : ByteArray := prog_6_method_4_code
def yX4_in : MethodName := ⟨RX4, "in", "(JII)Z"⟩
abbrev cX4_held : ByteArray := prog_6_method_5_code
def yX4_held : MethodName := ⟨RX4, "held", "(III)I"⟩
abbrev cX4_copyAll : ByteArray := prog_6_method_6_code
def yX4_copyAll : MethodName := ⟨RX4, "copyAll", "([I[I)V"⟩
abbrev cX4_bits : ByteArray := prog_6_method_7_code
def yX4_bits : MethodName := ⟨RX4, "bits", "(I)I"⟩
abbrev cX4_becomes : ByteArray := prog_6_method_8_code
def yX4_becomes : MethodName := ⟨RX4, "becomes", "(II)I"⟩
abbrev cX4_isThing : ByteArray := prog_6_method_9_code
def yX4_isThing : MethodName := ⟨RX4, "isThing", "(I)Z"⟩
abbrev cX4_isBearing : ByteArray := prog_6_method_10_code
def yX4_isBearing : MethodName := ⟨RX4, "isBearing", "(I)Z"⟩
abbrev cX4_it : ByteArray := prog_6_method_11_code
def yX4_it : MethodName := ⟨RX4, "it", "(II)I"⟩
abbrev cX4_put : ByteArray := prog_6_method_12_code
def yX4_put : MethodName := ⟨RX4, "put", "(III)V"⟩
abbrev cX4_isOn : ByteArray := prog_6_method_13_code
def yX4_isOn : MethodName := ⟨RX4, "isOn", "(I)Z"⟩
abbrev cX4_setOf : ByteArray := prog_6_method_14_code
def yX4_setOf : MethodName := ⟨RX4, "setOf", "(I)I"⟩
abbrev cX4_others : ByteArray := prog_6_method_15_code
def yX4_others : MethodName := ⟨RX4, "others", "(I)I"⟩
abbrev cX4_weighs : ByteArray := prog_6_method_16_code
def yX4_weighs : MethodName := ⟨RX4, "weighs", "(I)I"⟩
abbrev cX4_dries : ByteArray := prog_6_method_17_code
def yX4_dries : MethodName := ⟨RX4, "dries", "(I)I"⟩
abbrev cX4_getsOn : ByteArray := prog_6_method_18_code
def yX4_getsOn : MethodName := ⟨RX4, "getsOn", "(I)Z"⟩
abbrev cX4_getsOff : ByteArray := prog_6_method_19_code
def yX4_getsOff : MethodName := ⟨RX4, "getsOff", "(II)Z"⟩
abbrev cX4_bears : ByteArray := prog_6_method_20_code
def yX4_bears : MethodName := ⟨RX4, "bears", "(I)I"⟩
abbrev cX4_loadAt : ByteArray := prog_6_method_21_code
def yX4_loadAt : MethodName := ⟨RX4, "loadAt", "(I)I"⟩
abbrev cX4_isBorne : ByteArray := prog_6_method_22_code
def yX4_isBorne : MethodName := ⟨RX4, "isBorne", "(I)Z"⟩
abbrev cX4_beam : ByteArray := prog_6_method_23_code
def yX4_beam : MethodName := ⟨RX4, "beam", "(II)I"⟩
abbrev cX4_allWeighs : ByteArray := prog_6_method_24_code
def yX4_allWeighs : MethodName := ⟨RX4, "allWeighs", "()I"⟩
abbrev cX4_now : ByteArray := prog_6_method_25_code
def yX4_now : MethodName := ⟨RX4, "now", "(I)I"⟩
abbrev cX4_load : ByteArray := prog_6_method_26_code
def yX4_load : MethodName := ⟨RX4, "load", "(II)I"⟩
abbrev cX4_comesAs : ByteArray := prog_6_method_27_code
def yX4_comesAs : MethodName := ⟨RX4, "comesAs", "(IIIII)I"⟩
abbrev cX4_thing : ByteArray := prog_6_method_28_code
def yX4_thing : MethodName := ⟨RX4, "thing", "(II)I"⟩
abbrev cX4_of : ByteArray := prog_6_method_29_code
def yX4_of : MethodName := ⟨RX4, "of", "(II)I"⟩
abbrev cX4_mostOf : ByteArray := prog_6_method_30_code
def yX4_mostOf : MethodName := ⟨RX4, "mostOf", "(I)I"⟩
abbrev cX4_set : ByteArray := prog_6_method_31_code
def yX4_set : MethodName := ⟨RX4, "set", "(III)I"⟩
abbrev cX4_carry : ByteArray := prog_6_method_32_code
def yX4_carry : MethodName := ⟨RX4, "carry", "(II)I"⟩
abbrev cX4_turn : ByteArray := prog_6_method_33_code
def yX4_turn : MethodName := ⟨RX4, "turn", "(II)I"⟩
abbrev cX4_as : ByteArray := prog_6_method_34_code
def yX4_as : MethodName := ⟨RX4, "as", "(II)I"⟩
abbrev cX4_comesOn : ByteArray := prog_6_method_35_code
def yX4_comesOn : MethodName := ⟨RX4, "comesOn", "(I)V"⟩
abbrev cX4_goesOff : ByteArray := prog_6_method_36_code
def yX4_goesOff : MethodName := ⟨RX4, "goesOff", "(II)V"⟩
abbrev cX4_lay : ByteArray := prog_6_method_37_code
def yX4_lay : MethodName := ⟨RX4, "lay", "(I)I"⟩
abbrev cX4_take : ByteArray := prog_6_method_38_code
def yX4_take : MethodName := ⟨RX4, "take", "(I)I"⟩
abbrev cX4_passes : ByteArray := prog_6_method_39_code
def yX4_passes : MethodName := ⟨RX4, "passes", "(III)V"⟩
abbrev cX4_allDry : ByteArray := prog_6_method_40_code
def yX4_allDry : MethodName := ⟨RX4, "allDry", "()V"⟩
abbrev cX4_goes : ByteArray := prog_6_method_41_code
def yX4_goes : MethodName := ⟨RX4, "goes", "()V"⟩
abbrev cX4_goesFor : ByteArray := prog_6_method_42_code
def yX4_goesFor : MethodName := ⟨RX4, "goesFor", "(I)V"⟩
abbrev cX4_seconds : ByteArray := prog_6_method_43_code
def yX4_seconds : MethodName := ⟨RX4, "seconds", "(I)I"⟩
abbrev cX4_thinks : ByteArray := prog_6_method_44_code
def yX4_thinks : MethodName := ⟨RX4, "thinks", "()V"⟩
abbrev cX4_putsBack : ByteArray := prog_6_method_45_code
def yX4_putsBack : MethodName := ⟨RX4, "putsBack", "()V"⟩
abbrev cX4_on : ByteArray := prog_6_method_46_code
def yX4_on : MethodName := ⟨RX4, "on", "(III)I"⟩
abbrev cX4_then : ByteArray := prog_6_method_47_code
def yX4_then : MethodName := ⟨RX4, "then", "(II)I"⟩
abbrev cX4_soIn : ByteArray := prog_6_method_48_code
def yX4_soIn : MethodName := ⟨RX4, "soIn", "(IIII)I"⟩
abbrev cX4_gets : ByteArray := prog_6_method_49_code
def yX4_gets : MethodName := ⟨RX4, "gets", "(I)I"⟩
abbrev cX4_dry : ByteArray := prog_6_method_50_code
def yX4_dry : MethodName := ⟨RX4, "dry", "(I)I"⟩
abbrev cX4_lost : ByteArray := prog_6_method_51_code
def yX4_lost : MethodName := ⟨RX4, "lost", "(I)I"⟩
abbrev cX4_arrivesIn : ByteArray := prog_6_method_52_code
def yX4_arrivesIn : MethodName := ⟨RX4, "arrivesIn", "(II)I"⟩
abbrev cX4_arrives : ByteArray := prog_6_method_53_code
def yX4_arrives : MethodName := ⟨RX4, "arrives", "(I)I"⟩
abbrev cX4_driest : ByteArray := prog_6_method_54_code
def yX4_driest : MethodName := ⟨RX4, "driest", "(IIIII)I"⟩
abbrev cX4_speed : ByteArray := prog_6_method_55_code
def yX4_speed : MethodName := ⟨RX4, "speed", "(II)I"⟩
abbrev cX4_far : ByteArray := prog_6_method_56_code
def yX4_far : MethodName := ⟨RX4, "far", "(II)I"⟩
abbrev cX4_kind : ByteArray := prog_6_method_57_code
def yX4_kind : MethodName := ⟨RX4, "kind", "(II)I"⟩
abbrev cX4_thick : ByteArray := prog_6_method_58_code
def yX4_thick : MethodName := ⟨RX4, "thick", "(II)I"⟩
abbrev cX4_save : ByteArray := prog_6_method_59_code
def yX4_save : MethodName := ⟨RX4, "save", "(I)I"⟩
abbrev cX4_goal : ByteArray := prog_6_method_60_code
def yX4_goal : MethodName := ⟨RX4, "goal", "(I)I"⟩
abbrev cX4_feed : ByteArray := prog_6_method_61_code
def yX4_feed : MethodName := ⟨RX4, "feed", "(II)I"⟩
abbrev cX4_wipe : ByteArray := prog_6_method_62_code
def yX4_wipe : MethodName := ⟨RX4, "wipe", "()I"⟩
abbrev cX4_isByte : ByteArray := prog_6_method_63_code
def yX4_isByte : MethodName := ⟨RX4, "isByte", "(III)Z"⟩
abbrev cX4_isName : ByteArray := prog_6_method_64_code
def yX4_isName : MethodName := ⟨RX4, "isName", "(II)Z"⟩
abbrev cX4_wordHere : ByteArray := prog_6_method_65_code
def yX4_wordHere : MethodName := ⟨RX4, "wordHere", "()I"⟩
abbrev cX4_reads : ByteArray := prog_6_method_66_code
def yX4_reads : MethodName := ⟨RX4, "reads", "()V"⟩
abbrev cX4_passesBy : ByteArray := prog_6_method_67_code
def yX4_passesBy : MethodName := ⟨RX4, "passesBy", "(I)Z"⟩
abbrev cX4_number : ByteArray := prog_6_method_68_code
def yX4_number : MethodName := ⟨RX4, "number", "(II)I"⟩
abbrev cX4_perhaps : ByteArray := prog_6_method_69_code
def yX4_perhaps : MethodName := ⟨RX4, "perhaps", "(IIII)I"⟩
abbrev cX4_thingItem : ByteArray := prog_6_method_70_code
def yX4_thingItem : MethodName := ⟨RX4, "thingItem", "()V"⟩
abbrev cX4_item : ByteArray := prog_6_method_71_code
def yX4_item : MethodName := ⟨RX4, "item", "()V"⟩
abbrev cX4_island : ByteArray := prog_6_method_72_code
def yX4_island : MethodName := ⟨RX4, "island", "()I"⟩
abbrev cX4_isSheet : ByteArray := prog_6_method_73_code
def yX4_isSheet : MethodName := ⟨RX4, "isSheet", "(I)Z"⟩
abbrev cX4_sheet : ByteArray := prog_6_method_74_code
def yX4_sheet : MethodName := ⟨RX4, "sheet", "(III)I"⟩
abbrev cX4_notThere : ByteArray := prog_6_method_75_code
def yX4_notThere : MethodName := ⟨RX4, "notThere", "(I)I"⟩
abbrev cX4_cutTo : ByteArray := prog_6_method_76_code
def yX4_cutTo : MethodName := ⟨RX4, "cutTo", "(IJ)J"⟩
abbrev cX4_write : ByteArray := prog_6_method_77_code
def yX4_write : MethodName := ⟨RX4, "write", "(IIJ)J"⟩
abbrev cX4_notCopied : ByteArray := prog_6_method_78_code
def yX4_notCopied : MethodName := ⟨RX4, "notCopied", "(IIIII)I"⟩
abbrev cX4_copy : ByteArray := prog_6_method_79_code
def yX4_copy : MethodName := ⟨RX4, "copy", "(IIIII)I"⟩
abbrev cX4_lays : ByteArray := prog_6_method_80_code
def yX4_lays : MethodName := ⟨RX4, "lays", "(I)I"⟩
abbrev cX4_notAsked : ByteArray := prog_6_method_81_code
def yX4_notAsked : MethodName := ⟨RX4, "notAsked", "(II)I"⟩
abbrev cX4_book : ByteArray := prog_6_method_82_code
def yX4_book : MethodName := ⟨RX4, "book", "(II)I"⟩
abbrev cX4_isBook : ByteArray := prog_6_method_83_code
def yX4_isBook : MethodName := ⟨RX4, "isBook", "(II)Z"⟩
abbrev cX4_read : ByteArray := prog_6_method_84_code
def yX4_read : MethodName := ⟨RX4, "read", "(II)I"⟩
abbrev cX4_image : ByteArray := prog_6_method_85_code
def yX4_image : MethodName := ⟨RX4, "image", "()I"⟩
abbrev cX4_undo : ByteArray := prog_6_method_86_code
def yX4_undo : MethodName := ⟨RX4, "undo", "()I"⟩
abbrev cX4_tear : ByteArray := prog_6_method_87_code
def yX4_tear : MethodName := ⟨RX4, "tear", "()I"⟩
abbrev cX4_sums : ByteArray := prog_6_method_88_code
def yX4_sums : MethodName := ⟨RX4, "sums", "(I)I"⟩
abbrev cX4_count : ByteArray := prog_6_method_89_code
def yX4_count : MethodName := ⟨RX4, "count", "(I)I"⟩
abbrev cX4_status : ByteArray := prog_6_method_90_code
def yX4_status : MethodName := ⟨RX4, "status", "(I)I"⟩
def RJ6 : String := "java/lang/Integer"
def TJ6 : u_T := fun k => match k with
  | _ => ("", "", "", false)
def tyJ6 : Nat → FieldType := fun k => match k with
  | _ => .int
abbrev wsJ60 : List Cond := u_ws RJ6 TJ6 0
theorem nmJ6 : ∀ a, a < 0 → ∀ b, b < 0 → a ≠ b → (TJ6 a).2.1 ≠ (TJ6 b).2.1 := by decide +kernel
theorem tyJ6_ok : ∀ k, k < 0 → parseFieldDescriptor (TJ6 k).2.2.1 = some (tyJ6 k) := by decide +kernel
abbrev cJ6_bitCount_0f7a4 : ByteArray := prog_7_method_49_code
def yJ6_bitCount_0f7a4 : MethodName := ⟨RJ6, "bitCount", "(I)I"⟩
def RJ9 : String := "java/lang/Math"
def TJ9 : u_T := fun k => match k with
  | _ => ("", "", "", false)
def tyJ9 : Nat → FieldType := fun k => match k with
  | _ => .int
abbrev wsJ90 : List Cond := u_ws RJ9 TJ9 0
theorem nmJ9 : ∀ a, a < 0 → ∀ b, b < 0 → a ≠ b → (TJ9 a).2.1 ≠ (TJ9 b).2.1 := by decide +kernel
theorem tyJ9_ok : ∀ k, k < 0 → parseFieldDescriptor (TJ9 k).2.2.1 = some (tyJ9 k) := by decide +kernel
abbrev cJ9_max_7cf53 : ByteArray := prog_8_method_65_code
def yJ9_max_7cf53 : MethodName := ⟨RJ9, "max", "(II)I"⟩
abbrev cJ9_min_7cf53 : ByteArray := prog_8_method_69_code
def yJ9_min_7cf53 : MethodName := ⟨RJ9, "min", "(II)I"⟩
def RJ0 : String := "java/lang/String"
def TJ0 : u_T := fun k => match k with
  | _ => ("", "", "", false)
def tyJ0 : Nat → FieldType := fun k => match k with
  | _ => .int
abbrev wsJ00 : List Cond := u_ws RJ0 TJ0 0
theorem nmJ0 : ∀ a, a < 0 → ∀ b, b < 0 → a ≠ b → (TJ0 a).2.1 ≠ (TJ0 b).2.1 := by decide +kernel
theorem tyJ0_ok : ∀ k, k < 0 → parseFieldDescriptor (TJ0 k).2.2.1 = some (tyJ0 k) := by decide +kernel
abbrev cJ0_length_8abf5 : ByteArray := prog_9_method_54_code
def yJ0_length_8abf5 : MethodName := ⟨RJ0, "length", "()I"⟩
abbrev cJ0_charAt_5068e : ByteArray := prog_9_method_56_code
def yJ0_charAt_5068e : MethodName := ⟨RJ0, "charAt", "(I)C"⟩
abbrev cJ0_coder_7d493 : ByteArray := prog_9_method_152_code
def yJ0_coder_7d493 : MethodName := ⟨RJ0, "coder", "()B"⟩
abbrev cJ0_isLatin1_aae02 : ByteArray := prog_9_method_154_code
def yJ0_isLatin1_aae02 : MethodName := ⟨RJ0, "isLatin1", "()Z"⟩
abbrev cJ0_checkIndex_df160 : ByteArray := prog_9_method_155_code
def yJ0_checkIndex_df160 : MethodName := ⟨RJ0, "checkIndex", "(II)V"⟩
def RJ1 : String := "java/lang/StringLatin1"
def TJ1 : u_T := fun k => match k with
  | _ => ("", "", "", false)
def tyJ1 : Nat → FieldType := fun k => match k with
  | _ => .int
abbrev wsJ10 : List Cond := u_ws RJ1 TJ1 0
theorem nmJ1 : ∀ a, a < 0 → ∀ b, b < 0 → a ≠ b → (TJ1 a).2.1 ≠ (TJ1 b).2.1 := by decide +kernel
theorem tyJ1_ok : ∀ k, k < 0 → parseFieldDescriptor (TJ1 k).2.2.1 = some (tyJ1 k) := by decide +kernel
abbrev cJ1_charAt_3b067 : ByteArray := prog_10_method_2_code
def yJ1_charAt_3b067 : MethodName := ⟨RJ1, "charAt", "([BI)C"⟩
def RJ2 : String := "java/lang/StringUTF16"
def TJ2 : u_T := fun k => match k with
  | _ => ("", "", "", false)
def tyJ2 : Nat → FieldType := fun k => match k with
  | _ => .int
abbrev wsJ20 : List Cond := u_ws RJ2 TJ2 0
theorem nmJ2 : ∀ a, a < 0 → ∀ b, b < 0 → a ≠ b → (TJ2 a).2.1 ≠ (TJ2 b).2.1 := by decide +kernel
theorem tyJ2_ok : ∀ k, k < 0 → parseFieldDescriptor (TJ2 k).2.2.1 = some (tyJ2 k) := by decide +kernel
abbrev cJ2_getChar_3b067 : ByteArray := prog_11_method_5_code
def yJ2_getChar_3b067 : MethodName := ⟨RJ2, "getChar", "([BI)C"⟩
abbrev cJ2_length_9d52b : ByteArray := prog_11_method_6_code
def yJ2_length_9d52b : MethodName := ⟨RJ2, "length", "([B)I"⟩
abbrev cJ2_charAt_3b067 : ByteArray := prog_11_method_83_code
def yJ2_charAt_3b067 : MethodName := ⟨RJ2, "charAt", "([BI)C"⟩
abbrev cJ2_checkIndex_2214a : ByteArray := prog_11_method_91_code
def yJ2_checkIndex_2214a : MethodName := ⟨RJ2, "checkIndex", "(I[B)V"⟩
def RJ10 : String := "java/lang/System"
def TJ10 : u_T := fun k => match k with
  | _ => ("", "", "", false)
def tyJ10 : Nat → FieldType := fun k => match k with
  | _ => .int
abbrev wsJ100 : List Cond := u_ws RJ10 TJ10 0
theorem nmJ10 : ∀ a, a < 0 → ∀ b, b < 0 → a ≠ b → (TJ10 a).2.1 ≠ (TJ10 b).2.1 := by decide +kernel
theorem tyJ10_ok : ∀ k, k < 0 → parseFieldDescriptor (TJ10 k).2.2.1 = some (tyJ10 k) := by decide +kernel
def RJ3 : String := "jdk/internal/util/Preconditions"
def TJ3 : u_T := fun k => match k with
  | _ => ("", "", "", false)
def tyJ3 : Nat → FieldType := fun k => match k with
  | _ => .int
abbrev wsJ30 : List Cond := u_ws RJ3 TJ3 0
theorem nmJ3 : ∀ a, a < 0 → ∀ b, b < 0 → a ≠ b → (TJ3 a).2.1 ≠ (TJ3 b).2.1 := by decide +kernel
theorem tyJ3_ok : ∀ k, k < 0 → parseFieldDescriptor (TJ3 k).2.2.1 = some (tyJ3 k) := by decide +kernel
abbrev cJ3_checkIndex_8e157 : ByteArray := prog_13_method_11_code
def yJ3_checkIndex_8e157 : MethodName := ⟨RJ3, "checkIndex", "(IILjava/util/function/BiFunction;)I"⟩
def RL : String := "BeamSeatsLaw"
abbrev cL_law : ByteArray := code
def yL_law : MethodName := ⟨RL, "law", "([I)Z"⟩
def wsX0_init : List Cond := .code yX0_init cX0_init 1 none :: ([.methodLink RX0 3 objectInit, .instanceMethod objectInit, .code objectInit ⟨#[0xb1]⟩ 1 none, .fieldLink RX0 9 "BeamSeats$Island" "second" "I", .fieldLink RX0 15 "BeamSeats$Island" "bearing" "I", .fieldLink RX0 18 "BeamSeats$Island" "speed" "I", .fieldLink RX0 21 "BeamSeats$Island" "thick" "I", .fieldLink RX0 24 "BeamSeats$Island" "size" "I", .fieldLink RX0 27 "BeamSeats$Island" "onSet" "I", .fieldLink RX0 30 "BeamSeats$Island" "lostSet" "I", .arrayClass .int, .fieldLink RX0 33 "BeamSeats$Island" "kinds" "[I", .fieldLink RX0 37 "BeamSeats$Island" "places" "[I", .fieldLink RX0 40 "BeamSeats$Island" "outs" "[I", .fieldLink RX0 43 "BeamSeats$Island" "wets" "[I", .fieldLink RX0 46 "BeamSeats$Island" "goals" "[I", .fieldLink RX0 49 "BeamSeats$Island" "times" "[I"] ++ wsX00)
def wsX0_becomes : List Cond := .code yX0_becomes cX0_becomes 3 none :: ([.fieldLink RX0 9 "BeamSeats$Island" "second" "I", .fieldLink RX0 15 "BeamSeats$Island" "bearing" "I", .fieldLink RX0 18 "BeamSeats$Island" "speed" "I", .fieldLink RX0 21 "BeamSeats$Island" "thick" "I", .fieldLink RX0 24 "BeamSeats$Island" "size" "I", .fieldLink RX0 27 "BeamSeats$Island" "onSet" "I", .fieldLink RX0 30 "BeamSeats$Island" "lostSet" "I", .fieldLink RX0 33 "BeamSeats$Island" "kinds" "[I", .fieldLink RX0 37 "BeamSeats$Island" "places" "[I", .fieldLink RX0 40 "BeamSeats$Island" "outs" "[I", .fieldLink RX0 43 "BeamSeats$Island" "wets" "[I", .fieldLink RX0 46 "BeamSeats$Island" "goals" "[I", .fieldLink RX0 49 "BeamSeats$Island" "times" "[I"] ++ wsX00)
def wsX0_has : List Cond := .code yX0_has cX0_has 2 (some .boolean) :: ([.fieldLink RX0 24 "BeamSeats$Island" "size" "I"] ++ wsX00)
def wsX0_isOn : List Cond := .code yX0_isOn cX0_isOn 2 (some .boolean) :: ([.fieldLink RX0 27 "BeamSeats$Island" "onSet" "I"] ++ wsX00)
def wsX0_isLost : List Cond := .code yX0_isLost cX0_isLost 2 (some .boolean) :: ([.fieldLink RX0 30 "BeamSeats$Island" "lostSet" "I"] ++ wsX00)
def wsX0_add : List Cond := .code yX0_add cX0_add 4 (some .int) :: ([.fieldLink RX0 24 "BeamSeats$Island" "size" "I", .fieldLink RX0 33 "BeamSeats$Island" "kinds" "[I", .fieldLink RX0 37 "BeamSeats$Island" "places" "[I", .fieldLink RX0 40 "BeamSeats$Island" "outs" "[I", .fieldLink RX0 43 "BeamSeats$Island" "wets" "[I", .fieldLink RX0 46 "BeamSeats$Island" "goals" "[I", .fieldLink RX0 49 "BeamSeats$Island" "times" "[I"] ++ wsX00)
def wsX0_weightOf : List Cond := .code yX0_weightOf cX0_weightOf 3 (some .int) :: ([.fieldLink RX0 43 "BeamSeats$Island" "wets" "[I", .fieldLink RX0 33 "BeamSeats$Island" "kinds" "[I"] ++ wsX00)
def wsX0_weightAt : List Cond := .code yX0_weightAt cX0_weightAt 4 (some .int) :: ([.fieldLink RX0 24 "BeamSeats$Island" "size" "I", .fieldLink RX0 40 "BeamSeats$Island" "outs" "[I", .methodLink RX0 52 yX0_isOn, .instanceMethod yX0_isOn, .selects RX0 yX0_isOn yX0_isOn, .initialized RX0, .code yX0_isOn cX0_isOn 2 (some .boolean), .fieldLink RX0 27 "BeamSeats$Island" "onSet" "I", .methodLink RX0 56 yX0_weightOf, .instanceMethod yX0_weightOf, .selects RX0 yX0_weightOf yX0_weightOf, .code yX0_weightOf cX0_weightOf 3 (some .int), .fieldLink RX0 43 "BeamSeats$Island" "wets" "[I", .fieldLink RX0 33 "BeamSeats$Island" "kinds" "[I"] ++ wsX00)
def wsX0_weightOfAll : List Cond := .code yX0_weightOfAll cX0_weightOfAll 3 (some .int) :: ([.fieldLink RX0 24 "BeamSeats$Island" "size" "I", .methodLink RX0 52 yX0_isOn, .instanceMethod yX0_isOn, .selects RX0 yX0_isOn yX0_isOn, .initialized RX0, .code yX0_isOn cX0_isOn 2 (some .boolean), .fieldLink RX0 27 "BeamSeats$Island" "onSet" "I", .methodLink RX0 56 yX0_weightOf, .instanceMethod yX0_weightOf, .selects RX0 yX0_weightOf yX0_weightOf, .code yX0_weightOf cX0_weightOf 3 (some .int), .fieldLink RX0 43 "BeamSeats$Island" "wets" "[I", .fieldLink RX0 33 "BeamSeats$Island" "kinds" "[I"] ++ wsX00)
def wsX0_bears : List Cond := .code yX0_bears cX0_bears 2 (some .int) :: ([.fieldLink RX0 21 "BeamSeats$Island" "thick" "I", .methodLink RX0 60 Lib.Math.max.name, .static Lib.Math.max.name, .initialized "java/lang/Math", .code Lib.Math.max.name Lib.Math.max.code 2 (some .int)] ++ wsX00)
def wsX0_isBorne_r1 : List Cond := [Cond.fieldLink RX0 40 "BeamSeats$Island" "outs" "[I", Cond.methodLink RX0 66 yX0_weightAt, Cond.instanceMethod yX0_weightAt, Cond.selects RX0 yX0_weightAt yX0_weightAt, Cond.initialized RX0, Cond.code yX0_weightAt cX0_weightAt 4 (some .int), Cond.fieldLink RX0 24 "BeamSeats$Island" "size" "I", Cond.methodLink RX0 52 yX0_isOn, Cond.instanceMethod yX0_isOn, Cond.selects RX0 yX0_isOn yX0_isOn, Cond.code yX0_isOn cX0_isOn 2 (some .boolean), Cond.fieldLink RX0 27 "BeamSeats$Island" "onSet" "I", Cond.methodLink RX0 56 yX0_weightOf, Cond.instanceMethod yX0_weightOf, Cond.selects RX0 yX0_weightOf yX0_weightOf, Cond.code yX0_weightOf cX0_weightOf 3 (some .int), Cond.fieldLink RX0 43 "BeamSeats$Island" "wets" "[I", Cond.fieldLink RX0 33 "BeamSeats$Island" "kinds" "[I", Cond.methodLink RX0 69 yX0_bears, Cond.instanceMethod yX0_bears, Cond.selects RX0 yX0_bears yX0_bears, Cond.code yX0_bears cX0_bears 2 (some .int), Cond.fieldLink RX0 21 "BeamSeats$Island" "thick" "I", Cond.methodLink RX0 60 Lib.Math.max.name]
def wsX0_isBorne_r2 : List Cond := [Cond.static Lib.Math.max.name, Cond.initialized "java/lang/Math", Cond.code Lib.Math.max.name Lib.Math.max.code 2 (some .int)]
def wsX0_isBorne : List Cond := .code yX0_isBorne cX0_isBorne 2 (some .boolean) :: ((wsX0_isBorne_r1 ++ wsX0_isBorne_r2) ++ wsX00)
def wsJ6_bitCount_0f7a4 : List Cond := .code yJ6_bitCount_0f7a4 cJ6_bitCount_0f7a4 1 (some .int) :: ([.constant RJ6 265 (1431655765), .constant RJ6 266 (858993459), .constant RJ6 267 (252645135)])
def wsX0_getsOn : List Cond := .code yX0_getsOn cX0_getsOn 2 (some .boolean) :: ([.fieldLink RX0 33 "BeamSeats$Island" "kinds" "[I", .fieldLink RX0 43 "BeamSeats$Island" "wets" "[I", .fieldLink RX0 37 "BeamSeats$Island" "places" "[I", .fieldLink RX0 46 "BeamSeats$Island" "goals" "[I", .fieldLink RX0 27 "BeamSeats$Island" "onSet" "I", .fieldLink RX0 18 "BeamSeats$Island" "speed" "I", .methodLink RX0 72 yJ6_bitCount_0f7a4, .static yJ6_bitCount_0f7a4, .initialized RJ6, .code yJ6_bitCount_0f7a4 cJ6_bitCount_0f7a4 1 (some .int), .constant RJ6 265 (1431655765), .constant RJ6 266 (858993459), .constant RJ6 267 (252645135)] ++ wsX00)
def wsX0_getsOff : List Cond := .code yX0_getsOff cX0_getsOff 2 (some .boolean) :: ([.fieldLink RX0 33 "BeamSeats$Island" "kinds" "[I", .fieldLink RX0 43 "BeamSeats$Island" "wets" "[I", .fieldLink RX0 15 "BeamSeats$Island" "bearing" "I", .fieldLink RX0 46 "BeamSeats$Island" "goals" "[I", .fieldLink RX0 27 "BeamSeats$Island" "onSet" "I"] ++ wsX00)
def wsX0_dries : List Cond := .code yX0_dries cX0_dries 3 (some .int) :: ([.fieldLink RX0 40 "BeamSeats$Island" "outs" "[I", .fieldLink RX0 33 "BeamSeats$Island" "kinds" "[I", .fieldLink RX0 18 "BeamSeats$Island" "speed" "I"] ++ wsX00)
def wsX0_comeOn : List Cond := .code yX0_comeOn cX0_comeOn 2 none :: ([.fieldLink RX0 27 "BeamSeats$Island" "onSet" "I", .fieldLink RX0 49 "BeamSeats$Island" "times" "[I", .methodLink RX0 77 Lib.Math.min.name, .static Lib.Math.min.name, .initialized "java/lang/Math", .code Lib.Math.min.name Lib.Math.min.code 2 (some .int)] ++ wsX00)
def wsX0_goOff : List Cond := .code yX0_goOff cX0_goOff 2 none :: ([.fieldLink RX0 27 "BeamSeats$Island" "onSet" "I", .fieldLink RX0 37 "BeamSeats$Island" "places" "[I", .fieldLink RX0 15 "BeamSeats$Island" "bearing" "I"] ++ wsX00)
def wsX0_leaveOrBeLost : List Cond := .code yX0_leaveOrBeLost cX0_leaveOrBeLost 2 none :: ([.fieldLink RX0 15 "BeamSeats$Island" "bearing" "I", .fieldLink RX0 30 "BeamSeats$Island" "lostSet" "I", .methodLink RX0 99 yX0_getsOff, .instanceMethod yX0_getsOff, .selects RX0 yX0_getsOff yX0_getsOff, .initialized RX0, .code yX0_getsOff cX0_getsOff 2 (some .boolean), .fieldLink RX0 33 "BeamSeats$Island" "kinds" "[I", .fieldLink RX0 43 "BeamSeats$Island" "wets" "[I", .fieldLink RX0 46 "BeamSeats$Island" "goals" "[I", .fieldLink RX0 27 "BeamSeats$Island" "onSet" "I", .methodLink RX0 102 yX0_goOff, .instanceMethod yX0_goOff, .selects RX0 yX0_goOff yX0_goOff, .code yX0_goOff cX0_goOff 2 none, .fieldLink RX0 37 "BeamSeats$Island" "places" "[I"] ++ wsX00)
def wsX0_passBearing_r1 : List Cond := [Cond.fieldLink RX0 24 "BeamSeats$Island" "size" "I", Cond.fieldLink RX0 27 "BeamSeats$Island" "onSet" "I", Cond.fieldLink RX0 37 "BeamSeats$Island" "places" "[I", Cond.fieldLink RX0 15 "BeamSeats$Island" "bearing" "I", Cond.fieldLink RX0 30 "BeamSeats$Island" "lostSet" "I", Cond.methodLink RX0 87 yX0_leaveOrBeLost, Cond.instanceMethod yX0_leaveOrBeLost, Cond.selects RX0 yX0_leaveOrBeLost yX0_leaveOrBeLost, Cond.initialized RX0, Cond.code yX0_leaveOrBeLost cX0_leaveOrBeLost 2 none, Cond.methodLink RX0 99 yX0_getsOff, Cond.instanceMethod yX0_getsOff, Cond.selects RX0 yX0_getsOff yX0_getsOff, Cond.code yX0_getsOff cX0_getsOff 2 (some .boolean), Cond.fieldLink RX0 33 "BeamSeats$Island" "kinds" "[I", Cond.fieldLink RX0 43 "BeamSeats$Island" "wets" "[I", Cond.fieldLink RX0 46 "BeamSeats$Island" "goals" "[I", Cond.methodLink RX0 102 yX0_goOff, Cond.instanceMethod yX0_goOff, Cond.selects RX0 yX0_goOff yX0_goOff, Cond.code yX0_goOff cX0_goOff 2 none, Cond.methodLink RX0 90 yX0_getsOn, Cond.instanceMethod yX0_getsOn, Cond.selects RX0 yX0_getsOn yX0_getsOn]
def wsX0_passBearing_r2 : List Cond := [Cond.code yX0_getsOn cX0_getsOn 2 (some .boolean), Cond.fieldLink RX0 18 "BeamSeats$Island" "speed" "I", Cond.methodLink RX0 72 yJ6_bitCount_0f7a4, Cond.static yJ6_bitCount_0f7a4, Cond.initialized RJ6, Cond.code yJ6_bitCount_0f7a4 cJ6_bitCount_0f7a4 1 (some .int), Cond.constant RJ6 265 (1431655765), Cond.constant RJ6 266 (858993459), Cond.constant RJ6 267 (252645135), Cond.methodLink RX0 93 yX0_isBorne, Cond.instanceMethod yX0_isBorne, Cond.selects RX0 yX0_isBorne yX0_isBorne, Cond.code yX0_isBorne cX0_isBorne 2 (some .boolean), Cond.fieldLink RX0 40 "BeamSeats$Island" "outs" "[I", Cond.methodLink RX0 66 yX0_weightAt, Cond.instanceMethod yX0_weightAt, Cond.selects RX0 yX0_weightAt yX0_weightAt, Cond.code yX0_weightAt cX0_weightAt 4 (some .int), Cond.methodLink RX0 52 yX0_isOn, Cond.instanceMethod yX0_isOn, Cond.selects RX0 yX0_isOn yX0_isOn, Cond.code yX0_isOn cX0_isOn 2 (some .boolean), Cond.methodLink RX0 56 yX0_weightOf, Cond.instanceMethod yX0_weightOf]
def wsX0_passBearing_r3 : List Cond := [Cond.selects RX0 yX0_weightOf yX0_weightOf, Cond.code yX0_weightOf cX0_weightOf 3 (some .int), Cond.methodLink RX0 69 yX0_bears, Cond.instanceMethod yX0_bears, Cond.selects RX0 yX0_bears yX0_bears, Cond.code yX0_bears cX0_bears 2 (some .int), Cond.fieldLink RX0 21 "BeamSeats$Island" "thick" "I", Cond.methodLink RX0 60 Lib.Math.max.name, Cond.static Lib.Math.max.name, Cond.initialized "java/lang/Math", Cond.code Lib.Math.max.name Lib.Math.max.code 2 (some .int), Cond.methodLink RX0 96 yX0_comeOn, Cond.instanceMethod yX0_comeOn, Cond.selects RX0 yX0_comeOn yX0_comeOn, Cond.code yX0_comeOn cX0_comeOn 2 none, Cond.fieldLink RX0 49 "BeamSeats$Island" "times" "[I", Cond.methodLink RX0 77 Lib.Math.min.name, Cond.static Lib.Math.min.name, Cond.code Lib.Math.min.name Lib.Math.min.code 2 (some .int)]
def wsX0_passBearing : List Cond := .code yX0_passBearing cX0_passBearing 4 none :: ((wsX0_passBearing_r1 ++ (wsX0_passBearing_r2 ++ wsX0_passBearing_r3)) ++ wsX00)
def wsX0_dryAndRide : List Cond := .code yX0_dryAndRide cX0_dryAndRide 2 none :: ([.fieldLink RX0 24 "BeamSeats$Island" "size" "I", .fieldLink RX0 43 "BeamSeats$Island" "wets" "[I", .methodLink RX0 60 Lib.Math.max.name, .static Lib.Math.max.name, .initialized "java/lang/Math", .code Lib.Math.max.name Lib.Math.max.code 2 (some .int), .fieldLink RX0 37 "BeamSeats$Island" "places" "[I", .fieldLink RX0 15 "BeamSeats$Island" "bearing" "I", .methodLink RX0 52 yX0_isOn, .instanceMethod yX0_isOn, .selects RX0 yX0_isOn yX0_isOn, .initialized RX0, .code yX0_isOn cX0_isOn 2 (some .boolean), .fieldLink RX0 27 "BeamSeats$Island" "onSet" "I", .methodLink RX0 105 yX0_dries, .instanceMethod yX0_dries, .selects RX0 yX0_dries yX0_dries, .code yX0_dries cX0_dries 3 (some .int), .fieldLink RX0 40 "BeamSeats$Island" "outs" "[I", .fieldLink RX0 33 "BeamSeats$Island" "kinds" "[I", .fieldLink RX0 18 "BeamSeats$Island" "speed" "I"] ++ wsX00)
def wsX0_goSeconds_r1 : List Cond := [Cond.fieldLink RX0 27 "BeamSeats$Island" "onSet" "I", Cond.fieldLink RX0 18 "BeamSeats$Island" "speed" "I", Cond.fieldLink RX0 15 "BeamSeats$Island" "bearing" "I", Cond.fieldLink RX0 9 "BeamSeats$Island" "second" "I", Cond.methodLink RX0 80 yX0_passBearing, Cond.instanceMethod yX0_passBearing, Cond.selects RX0 yX0_passBearing yX0_passBearing, Cond.initialized RX0, Cond.code yX0_passBearing cX0_passBearing 4 none, Cond.fieldLink RX0 24 "BeamSeats$Island" "size" "I", Cond.fieldLink RX0 37 "BeamSeats$Island" "places" "[I", Cond.fieldLink RX0 30 "BeamSeats$Island" "lostSet" "I", Cond.methodLink RX0 87 yX0_leaveOrBeLost, Cond.instanceMethod yX0_leaveOrBeLost, Cond.selects RX0 yX0_leaveOrBeLost yX0_leaveOrBeLost, Cond.code yX0_leaveOrBeLost cX0_leaveOrBeLost 2 none, Cond.methodLink RX0 99 yX0_getsOff, Cond.instanceMethod yX0_getsOff, Cond.selects RX0 yX0_getsOff yX0_getsOff, Cond.code yX0_getsOff cX0_getsOff 2 (some .boolean), Cond.fieldLink RX0 33 "BeamSeats$Island" "kinds" "[I", Cond.fieldLink RX0 43 "BeamSeats$Island" "wets" "[I", Cond.fieldLink RX0 46 "BeamSeats$Island" "goals" "[I", Cond.methodLink RX0 102 yX0_goOff]
def wsX0_goSeconds_r2 : List Cond := [Cond.instanceMethod yX0_goOff, Cond.selects RX0 yX0_goOff yX0_goOff, Cond.code yX0_goOff cX0_goOff 2 none, Cond.methodLink RX0 90 yX0_getsOn, Cond.instanceMethod yX0_getsOn, Cond.selects RX0 yX0_getsOn yX0_getsOn, Cond.code yX0_getsOn cX0_getsOn 2 (some .boolean), Cond.methodLink RX0 72 yJ6_bitCount_0f7a4, Cond.static yJ6_bitCount_0f7a4, Cond.initialized RJ6, Cond.code yJ6_bitCount_0f7a4 cJ6_bitCount_0f7a4 1 (some .int), Cond.constant RJ6 265 (1431655765), Cond.constant RJ6 266 (858993459), Cond.constant RJ6 267 (252645135), Cond.methodLink RX0 93 yX0_isBorne, Cond.instanceMethod yX0_isBorne, Cond.selects RX0 yX0_isBorne yX0_isBorne, Cond.code yX0_isBorne cX0_isBorne 2 (some .boolean), Cond.fieldLink RX0 40 "BeamSeats$Island" "outs" "[I", Cond.methodLink RX0 66 yX0_weightAt, Cond.instanceMethod yX0_weightAt, Cond.selects RX0 yX0_weightAt yX0_weightAt, Cond.code yX0_weightAt cX0_weightAt 4 (some .int), Cond.methodLink RX0 52 yX0_isOn]
def wsX0_goSeconds_r3 : List Cond := [Cond.instanceMethod yX0_isOn, Cond.selects RX0 yX0_isOn yX0_isOn, Cond.code yX0_isOn cX0_isOn 2 (some .boolean), Cond.methodLink RX0 56 yX0_weightOf, Cond.instanceMethod yX0_weightOf, Cond.selects RX0 yX0_weightOf yX0_weightOf, Cond.code yX0_weightOf cX0_weightOf 3 (some .int), Cond.methodLink RX0 69 yX0_bears, Cond.instanceMethod yX0_bears, Cond.selects RX0 yX0_bears yX0_bears, Cond.code yX0_bears cX0_bears 2 (some .int), Cond.fieldLink RX0 21 "BeamSeats$Island" "thick" "I", Cond.methodLink RX0 60 Lib.Math.max.name, Cond.static Lib.Math.max.name, Cond.initialized "java/lang/Math", Cond.code Lib.Math.max.name Lib.Math.max.code 2 (some .int), Cond.methodLink RX0 96 yX0_comeOn, Cond.instanceMethod yX0_comeOn, Cond.selects RX0 yX0_comeOn yX0_comeOn, Cond.code yX0_comeOn cX0_comeOn 2 none, Cond.fieldLink RX0 49 "BeamSeats$Island" "times" "[I", Cond.methodLink RX0 77 Lib.Math.min.name, Cond.static Lib.Math.min.name, Cond.code Lib.Math.min.name Lib.Math.min.code 2 (some .int)]
def wsX0_goSeconds_r4 : List Cond := [Cond.methodLink RX0 84 yX0_dryAndRide, Cond.instanceMethod yX0_dryAndRide, Cond.selects RX0 yX0_dryAndRide yX0_dryAndRide, Cond.code yX0_dryAndRide cX0_dryAndRide 2 none, Cond.methodLink RX0 105 yX0_dries, Cond.instanceMethod yX0_dries, Cond.selects RX0 yX0_dries yX0_dries, Cond.code yX0_dries cX0_dries 3 (some .int)]
def wsX0_goSeconds : List Cond := .code yX0_goSeconds cX0_goSeconds 5 none :: ((wsX0_goSeconds_r1 ++ (wsX0_goSeconds_r2 ++ (wsX0_goSeconds_r3 ++ wsX0_goSeconds_r4))) ++ wsX00)
def wsX0_isSo : List Cond := .code yX0_isSo cX0_isSo 3 (some .boolean) :: ([.fieldLink RX0 43 "BeamSeats$Island" "wets" "[I", .fieldLink RX0 37 "BeamSeats$Island" "places" "[I", .fieldLink RX0 46 "BeamSeats$Island" "goals" "[I", .methodLink RX0 52 yX0_isOn, .instanceMethod yX0_isOn, .selects RX0 yX0_isOn yX0_isOn, .initialized RX0, .code yX0_isOn cX0_isOn 2 (some .boolean), .fieldLink RX0 27 "BeamSeats$Island" "onSet" "I", .methodLink RX0 108 yX0_isLost, .instanceMethod yX0_isLost, .selects RX0 yX0_isLost yX0_isLost, .code yX0_isLost cX0_isLost 2 (some .boolean), .fieldLink RX0 30 "BeamSeats$Island" "lostSet" "I"] ++ wsX00)
def wsX1_init : List Cond := .code yX1_init cX1_init 1 none :: ([.methodLink RX1 3 objectInit, .instanceMethod objectInit, .code objectInit ⟨#[0xb1]⟩ 1 none, .fieldLink RX1 9 "BeamSeats$Sheet" "bits" "I", .fieldLink RX1 15 "BeamSeats$Sheet" "size" "I", .arrayClass .long, .fieldLink RX1 18 "BeamSeats$Sheet" "numbers" "[J"] ++ wsX10)
def wsX1_renew : List Cond := .code yX1_renew cX1_renew 4 none :: ([.fieldLink RX1 9 "BeamSeats$Sheet" "bits" "I", .fieldLink RX1 15 "BeamSeats$Sheet" "size" "I", .fieldLink RX1 18 "BeamSeats$Sheet" "numbers" "[J"] ++ wsX10)
def wsX1_put : List Cond := .code yX1_put cX1_put 4 none :: ([.fieldLink RX1 9 "BeamSeats$Sheet" "bits" "I", .fieldLink RX1 18 "BeamSeats$Sheet" "numbers" "[J"] ++ wsX10)
def wsX1_hasNumbers : List Cond := .code yX1_hasNumbers cX1_hasNumbers 3 (some .boolean) :: ([.fieldLink RX1 15 "BeamSeats$Sheet" "size" "I"] ++ wsX10)
def wsX2_init : List Cond := .code yX2_init cX2_init 1 none :: ([.methodLink RX2 3 objectInit, .instanceMethod objectInit, .code objectInit ⟨#[0xb1]⟩ 1 none, .arrayClass .byte, .fieldLink RX2 9 "BeamSeats$Tape" "bytes" "[B", .fieldLink RX2 15 "BeamSeats$Tape" "size" "I", .arrayClass .int, .fieldLink RX2 19 "BeamSeats$Tape" "tokens" "[I", .fieldLink RX2 23 "BeamSeats$Tape" "starts" "[I", .fieldLink RX2 26 "BeamSeats$Tape" "values" "[I", .fieldLink RX2 29 "BeamSeats$Tape" "next" "I", .fieldLink RX2 32 "BeamSeats$Tape" "number" "I"] ++ wsX20)
def wsX2_append : List Cond := .code yX2_append cX2_append 2 none :: ([.fieldLink RX2 9 "BeamSeats$Tape" "bytes" "[B", .fieldLink RX2 15 "BeamSeats$Tape" "size" "I"] ++ wsX20)
def wsX2_isLetter : List Cond := .code yX2_isLetter cX2_isLetter 1 (some .boolean) :: ([])
def wsX2_wordOf : List Cond := .code yX2_wordOf cX2_wordOf 1 (some (.object "java/lang/String")) :: ([])
def wsJ0_coder_7d493 : List Cond := .code yJ0_coder_7d493 cJ0_coder_7d493 1 (some .byte) :: ([.fieldLink RJ0 38 "java/lang/String" "COMPACT_STRINGS" "Z", .fieldLink RJ0 15 "java/lang/String" "coder" "B"])
def wsJ0_length_8abf5 : List Cond := .code yJ0_length_8abf5 cJ0_length_8abf5 1 (some .int) :: ([.fieldLink RJ0 9 "java/lang/String" "value" "[B", .methodLink RJ0 335 yJ0_coder_7d493, .instanceMethod yJ0_coder_7d493, .selects RJ0 yJ0_coder_7d493 yJ0_coder_7d493, .initialized RJ0, .code yJ0_coder_7d493 cJ0_coder_7d493 1 (some .byte), .fieldLink RJ0 38 "java/lang/String" "COMPACT_STRINGS" "Z", .fieldLink RJ0 15 "java/lang/String" "coder" "B"])
def wsJ0_isLatin1_aae02 : List Cond := .code yJ0_isLatin1_aae02 cJ0_isLatin1_aae02 1 (some .boolean) :: ([.fieldLink RJ0 38 "java/lang/String" "COMPACT_STRINGS" "Z", .fieldLink RJ0 15 "java/lang/String" "coder" "B"])
def wsJ3_checkIndex_8e157 : List Cond := .code yJ3_checkIndex_8e157 cJ3_checkIndex_8e157 3 (some .int) :: ([])
def wsJ0_checkIndex_df160 : List Cond := .code yJ0_checkIndex_df160 cJ0_checkIndex_df160 2 none :: ([.fieldLink RJ0 1053 "jdk/internal/util/Preconditions" "SIOOBE_FORMATTER" "Ljava/util/function/BiFunction;", .methodLink RJ0 1059 yJ3_checkIndex_8e157, .static yJ3_checkIndex_8e157, .initialized RJ3, .code yJ3_checkIndex_8e157 cJ3_checkIndex_8e157 3 (some .int)])
def wsJ1_charAt_3b067 : List Cond := .code yJ1_charAt_3b067 cJ1_charAt_3b067 2 (some .char) :: ([.methodLink RJ1 9 yJ0_checkIndex_df160, .static yJ0_checkIndex_df160, .initialized RJ0, .code yJ0_checkIndex_df160 cJ0_checkIndex_df160 2 none, .fieldLink RJ0 1053 "jdk/internal/util/Preconditions" "SIOOBE_FORMATTER" "Ljava/util/function/BiFunction;", .methodLink RJ0 1059 yJ3_checkIndex_8e157, .static yJ3_checkIndex_8e157, .initialized RJ3, .code yJ3_checkIndex_8e157 cJ3_checkIndex_8e157 3 (some .int)])
def wsJ2_length_9d52b : List Cond := .code yJ2_length_9d52b cJ2_length_9d52b 1 (some .int) :: ([])
def wsJ2_checkIndex_2214a : List Cond := .code yJ2_checkIndex_2214a cJ2_checkIndex_2214a 2 none :: ([.methodLink RJ2 48 yJ2_length_9d52b, .static yJ2_length_9d52b, .initialized RJ2, .code yJ2_length_9d52b cJ2_length_9d52b 1 (some .int), .methodLink RJ2 414 yJ0_checkIndex_df160, .static yJ0_checkIndex_df160, .initialized RJ0, .code yJ0_checkIndex_df160 cJ0_checkIndex_df160 2 none, .fieldLink RJ0 1053 "jdk/internal/util/Preconditions" "SIOOBE_FORMATTER" "Ljava/util/function/BiFunction;", .methodLink RJ0 1059 yJ3_checkIndex_8e157, .static yJ3_checkIndex_8e157, .initialized RJ3, .code yJ3_checkIndex_8e157 cJ3_checkIndex_8e157 3 (some .int)])
def wsJ2_getChar_3b067 : List Cond := .code yJ2_getChar_3b067 cJ2_getChar_3b067 2 (some .char) :: ([.fieldLink RJ2 44 "java/lang/StringUTF16" "$assertionsDisabled" "Z", .fieldLink RJ2 59 "java/lang/StringUTF16" "HI_BYTE_SHIFT" "I", .fieldLink RJ2 63 "java/lang/StringUTF16" "LO_BYTE_SHIFT" "I", .methodLink RJ2 48 yJ2_length_9d52b, .static yJ2_length_9d52b, .initialized RJ2, .code yJ2_length_9d52b cJ2_length_9d52b 1 (some .int)])
def wsJ2_charAt_3b067 : List Cond := .code yJ2_charAt_3b067 cJ2_charAt_3b067 2 (some .char) :: ([.methodLink RJ2 67 yJ2_checkIndex_2214a, .static yJ2_checkIndex_2214a, .initialized RJ2, .code yJ2_checkIndex_2214a cJ2_checkIndex_2214a 2 none, .methodLink RJ2 48 yJ2_length_9d52b, .static yJ2_length_9d52b, .code yJ2_length_9d52b cJ2_length_9d52b 1 (some .int), .methodLink RJ2 414 yJ0_checkIndex_df160, .static yJ0_checkIndex_df160, .initialized RJ0, .code yJ0_checkIndex_df160 cJ0_checkIndex_df160 2 none, .fieldLink RJ0 1053 "jdk/internal/util/Preconditions" "SIOOBE_FORMATTER" "Ljava/util/function/BiFunction;", .methodLink RJ0 1059 yJ3_checkIndex_8e157, .static yJ3_checkIndex_8e157, .initialized RJ3, .code yJ3_checkIndex_8e157 cJ3_checkIndex_8e157 3 (some .int), .methodLink RJ2 71 yJ2_getChar_3b067, .static yJ2_getChar_3b067, .code yJ2_getChar_3b067 cJ2_getChar_3b067 2 (some .char), .fieldLink RJ2 44 "java/lang/StringUTF16" "$assertionsDisabled" "Z", .fieldLink RJ2 59 "java/lang/StringUTF16" "HI_BYTE_SHIFT" "I", .fieldLink RJ2 63 "java/lang/StringUTF16" "LO_BYTE_SHIFT" "I"])
def wsJ0_charAt_5068e_r1 : List Cond := [Cond.fieldLink RJ0 9 "java/lang/String" "value" "[B", Cond.methodLink RJ0 492 yJ0_isLatin1_aae02, Cond.instanceMethod yJ0_isLatin1_aae02, Cond.selects RJ0 yJ0_isLatin1_aae02 yJ0_isLatin1_aae02, Cond.initialized RJ0, Cond.code yJ0_isLatin1_aae02 cJ0_isLatin1_aae02 1 (some .boolean), Cond.fieldLink RJ0 38 "java/lang/String" "COMPACT_STRINGS" "Z", Cond.fieldLink RJ0 15 "java/lang/String" "coder" "B", Cond.methodLink RJ0 495 yJ1_charAt_3b067, Cond.static yJ1_charAt_3b067, Cond.initialized RJ1, Cond.code yJ1_charAt_3b067 cJ1_charAt_3b067 2 (some .char), Cond.methodLink RJ1 9 yJ0_checkIndex_df160, Cond.static yJ0_checkIndex_df160, Cond.code yJ0_checkIndex_df160 cJ0_checkIndex_df160 2 none, Cond.fieldLink RJ0 1053 "jdk/internal/util/Preconditions" "SIOOBE_FORMATTER" "Ljava/util/function/BiFunction;", Cond.methodLink RJ0 1059 yJ3_checkIndex_8e157, Cond.static yJ3_checkIndex_8e157, Cond.initialized RJ3, Cond.code yJ3_checkIndex_8e157 cJ3_checkIndex_8e157 3 (some .int), Cond.methodLink RJ0 498 yJ2_charAt_3b067, Cond.static yJ2_charAt_3b067, Cond.initialized RJ2, Cond.code yJ2_charAt_3b067 cJ2_charAt_3b067 2 (some .char)]
def wsJ0_charAt_5068e_r2 : List Cond := [Cond.methodLink RJ2 67 yJ2_checkIndex_2214a, Cond.static yJ2_checkIndex_2214a, Cond.code yJ2_checkIndex_2214a cJ2_checkIndex_2214a 2 none, Cond.methodLink RJ2 48 yJ2_length_9d52b, Cond.static yJ2_length_9d52b, Cond.code yJ2_length_9d52b cJ2_length_9d52b 1 (some .int), Cond.methodLink RJ2 414 yJ0_checkIndex_df160, Cond.methodLink RJ2 71 yJ2_getChar_3b067, Cond.static yJ2_getChar_3b067, Cond.code yJ2_getChar_3b067 cJ2_getChar_3b067 2 (some .char), Cond.fieldLink RJ2 44 "java/lang/StringUTF16" "$assertionsDisabled" "Z", Cond.fieldLink RJ2 59 "java/lang/StringUTF16" "HI_BYTE_SHIFT" "I", Cond.fieldLink RJ2 63 "java/lang/StringUTF16" "LO_BYTE_SHIFT" "I"]
def wsJ0_charAt_5068e : List Cond := .code yJ0_charAt_5068e cJ0_charAt_5068e 2 (some .char) :: ((wsJ0_charAt_5068e_r1 ++ wsJ0_charAt_5068e_r2))
def wsX2_isSpelt_r1 : List Cond := [Cond.fieldLink RX2 9 "BeamSeats$Tape" "bytes" "[B", Cond.methodLink RX2 112 yJ0_length_8abf5, Cond.instanceMethod yJ0_length_8abf5, Cond.selects RJ0 yJ0_length_8abf5 yJ0_length_8abf5, Cond.initialized RJ0, Cond.code yJ0_length_8abf5 cJ0_length_8abf5 1 (some .int), Cond.fieldLink RJ0 9 "java/lang/String" "value" "[B", Cond.methodLink RJ0 335 yJ0_coder_7d493, Cond.instanceMethod yJ0_coder_7d493, Cond.selects RJ0 yJ0_coder_7d493 yJ0_coder_7d493, Cond.code yJ0_coder_7d493 cJ0_coder_7d493 1 (some .byte), Cond.fieldLink RJ0 38 "java/lang/String" "COMPACT_STRINGS" "Z", Cond.fieldLink RJ0 15 "java/lang/String" "coder" "B", Cond.methodLink RX2 118 yJ0_charAt_5068e, Cond.instanceMethod yJ0_charAt_5068e, Cond.selects RJ0 yJ0_charAt_5068e yJ0_charAt_5068e, Cond.code yJ0_charAt_5068e cJ0_charAt_5068e 2 (some .char), Cond.methodLink RJ0 492 yJ0_isLatin1_aae02, Cond.instanceMethod yJ0_isLatin1_aae02, Cond.selects RJ0 yJ0_isLatin1_aae02 yJ0_isLatin1_aae02, Cond.code yJ0_isLatin1_aae02 cJ0_isLatin1_aae02 1 (some .boolean), Cond.methodLink RJ0 495 yJ1_charAt_3b067, Cond.static yJ1_charAt_3b067, Cond.initialized RJ1]
def wsX2_isSpelt_r2 : List Cond := [Cond.code yJ1_charAt_3b067 cJ1_charAt_3b067 2 (some .char), Cond.methodLink RJ1 9 yJ0_checkIndex_df160, Cond.static yJ0_checkIndex_df160, Cond.code yJ0_checkIndex_df160 cJ0_checkIndex_df160 2 none, Cond.fieldLink RJ0 1053 "jdk/internal/util/Preconditions" "SIOOBE_FORMATTER" "Ljava/util/function/BiFunction;", Cond.methodLink RJ0 1059 yJ3_checkIndex_8e157, Cond.static yJ3_checkIndex_8e157, Cond.initialized RJ3, Cond.code yJ3_checkIndex_8e157 cJ3_checkIndex_8e157 3 (some .int), Cond.methodLink RJ0 498 yJ2_charAt_3b067, Cond.static yJ2_charAt_3b067, Cond.initialized RJ2, Cond.code yJ2_charAt_3b067 cJ2_charAt_3b067 2 (some .char), Cond.methodLink RJ2 67 yJ2_checkIndex_2214a, Cond.static yJ2_checkIndex_2214a, Cond.code yJ2_checkIndex_2214a cJ2_checkIndex_2214a 2 none, Cond.methodLink RJ2 48 yJ2_length_9d52b, Cond.static yJ2_length_9d52b, Cond.code yJ2_length_9d52b cJ2_length_9d52b 1 (some .int), Cond.methodLink RJ2 414 yJ0_checkIndex_df160, Cond.methodLink RJ2 71 yJ2_getChar_3b067, Cond.static yJ2_getChar_3b067, Cond.code yJ2_getChar_3b067 cJ2_getChar_3b067 2 (some .char), Cond.fieldLink RJ2 44 "java/lang/StringUTF16" "$assertionsDisabled" "Z"]
def wsX2_isSpelt_r3 : List Cond := [Cond.fieldLink RJ2 59 "java/lang/StringUTF16" "HI_BYTE_SHIFT" "I", Cond.fieldLink RJ2 63 "java/lang/StringUTF16" "LO_BYTE_SHIFT" "I"]
def wsX2_isSpelt : List Cond := .code yX2_isSpelt cX2_isSpelt 5 (some .boolean) :: ((wsX2_isSpelt_r1 ++ (wsX2_isSpelt_r2 ++ wsX2_isSpelt_r3)) ++ wsX20)
def wsX2_wordAt_r1 : List Cond := [Cond.methodLink RX2 99 yX2_wordOf, Cond.static yX2_wordOf, Cond.initialized RX2, Cond.code yX2_wordOf cX2_wordOf 1 (some (.object "java/lang/String")), Cond.methodLink RX2 103 yX2_isSpelt, Cond.instanceMethod yX2_isSpelt, Cond.selects RX2 yX2_isSpelt yX2_isSpelt, Cond.code yX2_isSpelt cX2_isSpelt 5 (some .boolean), Cond.fieldLink RX2 9 "BeamSeats$Tape" "bytes" "[B", Cond.methodLink RX2 112 yJ0_length_8abf5, Cond.instanceMethod yJ0_length_8abf5, Cond.selects RJ0 yJ0_length_8abf5 yJ0_length_8abf5, Cond.initialized RJ0, Cond.code yJ0_length_8abf5 cJ0_length_8abf5 1 (some .int), Cond.fieldLink RJ0 9 "java/lang/String" "value" "[B", Cond.methodLink RJ0 335 yJ0_coder_7d493, Cond.instanceMethod yJ0_coder_7d493, Cond.selects RJ0 yJ0_coder_7d493 yJ0_coder_7d493, Cond.code yJ0_coder_7d493 cJ0_coder_7d493 1 (some .byte), Cond.fieldLink RJ0 38 "java/lang/String" "COMPACT_STRINGS" "Z", Cond.fieldLink RJ0 15 "java/lang/String" "coder" "B", Cond.methodLink RX2 118 yJ0_charAt_5068e, Cond.instanceMethod yJ0_charAt_5068e, Cond.selects RJ0 yJ0_charAt_5068e yJ0_charAt_5068e]
def wsX2_wordAt_r2 : List Cond := [Cond.code yJ0_charAt_5068e cJ0_charAt_5068e 2 (some .char), Cond.methodLink RJ0 492 yJ0_isLatin1_aae02, Cond.instanceMethod yJ0_isLatin1_aae02, Cond.selects RJ0 yJ0_isLatin1_aae02 yJ0_isLatin1_aae02, Cond.code yJ0_isLatin1_aae02 cJ0_isLatin1_aae02 1 (some .boolean), Cond.methodLink RJ0 495 yJ1_charAt_3b067, Cond.static yJ1_charAt_3b067, Cond.initialized RJ1, Cond.code yJ1_charAt_3b067 cJ1_charAt_3b067 2 (some .char), Cond.methodLink RJ1 9 yJ0_checkIndex_df160, Cond.static yJ0_checkIndex_df160, Cond.code yJ0_checkIndex_df160 cJ0_checkIndex_df160 2 none, Cond.fieldLink RJ0 1053 "jdk/internal/util/Preconditions" "SIOOBE_FORMATTER" "Ljava/util/function/BiFunction;", Cond.methodLink RJ0 1059 yJ3_checkIndex_8e157, Cond.static yJ3_checkIndex_8e157, Cond.initialized RJ3, Cond.code yJ3_checkIndex_8e157 cJ3_checkIndex_8e157 3 (some .int), Cond.methodLink RJ0 498 yJ2_charAt_3b067, Cond.static yJ2_charAt_3b067, Cond.initialized RJ2, Cond.code yJ2_charAt_3b067 cJ2_charAt_3b067 2 (some .char), Cond.methodLink RJ2 67 yJ2_checkIndex_2214a, Cond.static yJ2_checkIndex_2214a, Cond.code yJ2_checkIndex_2214a cJ2_checkIndex_2214a 2 none]
def wsX2_wordAt_r3 : List Cond := [Cond.methodLink RJ2 48 yJ2_length_9d52b, Cond.static yJ2_length_9d52b, Cond.code yJ2_length_9d52b cJ2_length_9d52b 1 (some .int), Cond.methodLink RJ2 414 yJ0_checkIndex_df160, Cond.methodLink RJ2 71 yJ2_getChar_3b067, Cond.static yJ2_getChar_3b067, Cond.code yJ2_getChar_3b067 cJ2_getChar_3b067 2 (some .char), Cond.fieldLink RJ2 44 "java/lang/StringUTF16" "$assertionsDisabled" "Z", Cond.fieldLink RJ2 59 "java/lang/StringUTF16" "HI_BYTE_SHIFT" "I", Cond.fieldLink RJ2 63 "java/lang/StringUTF16" "LO_BYTE_SHIFT" "I"]
def wsX2_wordAt : List Cond := .code yX2_wordAt cX2_wordAt 4 (some .int) :: ((wsX2_wordAt_r1 ++ (wsX2_wordAt_r2 ++ wsX2_wordAt_r3)) ++ wsX20)
def wsX2_isDigit : List Cond := .code yX2_isDigit cX2_isDigit 1 (some .boolean) :: ([])
def wsX2_numberAt : List Cond := .code yX2_numberAt cX2_numberAt 5 (some .int) :: ([.fieldLink RX2 9 "BeamSeats$Tape" "bytes" "[B", .methodLink RX2 107 Lib.Math.min.name, .static Lib.Math.min.name, .initialized "java/lang/Math", .code Lib.Math.min.name Lib.Math.min.code 2 (some .int)] ++ wsX20)
def wsX2_cutToken_r1 : List Cond := [Cond.fieldLink RX2 23 "BeamSeats$Tape" "starts" "[I", Cond.fieldLink RX2 9 "BeamSeats$Tape" "bytes" "[B", Cond.fieldLink RX2 15 "BeamSeats$Tape" "size" "I", Cond.fieldLink RX2 19 "BeamSeats$Tape" "tokens" "[I", Cond.fieldLink RX2 26 "BeamSeats$Tape" "values" "[I", Cond.methodLink RX2 86 yX2_isLetter, Cond.static yX2_isLetter, Cond.initialized RX2, Cond.code yX2_isLetter cX2_isLetter 1 (some .boolean), Cond.methodLink RX2 90 yX2_wordAt, Cond.instanceMethod yX2_wordAt, Cond.selects RX2 yX2_wordAt yX2_wordAt, Cond.code yX2_wordAt cX2_wordAt 4 (some .int), Cond.methodLink RX2 99 yX2_wordOf, Cond.static yX2_wordOf, Cond.code yX2_wordOf cX2_wordOf 1 (some (.object "java/lang/String")), Cond.methodLink RX2 103 yX2_isSpelt, Cond.instanceMethod yX2_isSpelt, Cond.selects RX2 yX2_isSpelt yX2_isSpelt, Cond.code yX2_isSpelt cX2_isSpelt 5 (some .boolean), Cond.methodLink RX2 112 yJ0_length_8abf5, Cond.instanceMethod yJ0_length_8abf5, Cond.selects RJ0 yJ0_length_8abf5 yJ0_length_8abf5, Cond.initialized RJ0]
def wsX2_cutToken_r2 : List Cond := [Cond.code yJ0_length_8abf5 cJ0_length_8abf5 1 (some .int), Cond.fieldLink RJ0 9 "java/lang/String" "value" "[B", Cond.methodLink RJ0 335 yJ0_coder_7d493, Cond.instanceMethod yJ0_coder_7d493, Cond.selects RJ0 yJ0_coder_7d493 yJ0_coder_7d493, Cond.code yJ0_coder_7d493 cJ0_coder_7d493 1 (some .byte), Cond.fieldLink RJ0 38 "java/lang/String" "COMPACT_STRINGS" "Z", Cond.fieldLink RJ0 15 "java/lang/String" "coder" "B", Cond.methodLink RX2 118 yJ0_charAt_5068e, Cond.instanceMethod yJ0_charAt_5068e, Cond.selects RJ0 yJ0_charAt_5068e yJ0_charAt_5068e, Cond.code yJ0_charAt_5068e cJ0_charAt_5068e 2 (some .char), Cond.methodLink RJ0 492 yJ0_isLatin1_aae02, Cond.instanceMethod yJ0_isLatin1_aae02, Cond.selects RJ0 yJ0_isLatin1_aae02 yJ0_isLatin1_aae02, Cond.code yJ0_isLatin1_aae02 cJ0_isLatin1_aae02 1 (some .boolean), Cond.methodLink RJ0 495 yJ1_charAt_3b067, Cond.static yJ1_charAt_3b067, Cond.initialized RJ1, Cond.code yJ1_charAt_3b067 cJ1_charAt_3b067 2 (some .char), Cond.methodLink RJ1 9 yJ0_checkIndex_df160, Cond.static yJ0_checkIndex_df160, Cond.code yJ0_checkIndex_df160 cJ0_checkIndex_df160 2 none, Cond.fieldLink RJ0 1053 "jdk/internal/util/Preconditions" "SIOOBE_FORMATTER" "Ljava/util/function/BiFunction;"]
def wsX2_cutToken_r3 : List Cond := [Cond.methodLink RJ0 1059 yJ3_checkIndex_8e157, Cond.static yJ3_checkIndex_8e157, Cond.initialized RJ3, Cond.code yJ3_checkIndex_8e157 cJ3_checkIndex_8e157 3 (some .int), Cond.methodLink RJ0 498 yJ2_charAt_3b067, Cond.static yJ2_charAt_3b067, Cond.initialized RJ2, Cond.code yJ2_charAt_3b067 cJ2_charAt_3b067 2 (some .char), Cond.methodLink RJ2 67 yJ2_checkIndex_2214a, Cond.static yJ2_checkIndex_2214a, Cond.code yJ2_checkIndex_2214a cJ2_checkIndex_2214a 2 none, Cond.methodLink RJ2 48 yJ2_length_9d52b, Cond.static yJ2_length_9d52b, Cond.code yJ2_length_9d52b cJ2_length_9d52b 1 (some .int), Cond.methodLink RJ2 414 yJ0_checkIndex_df160, Cond.methodLink RJ2 71 yJ2_getChar_3b067, Cond.static yJ2_getChar_3b067, Cond.code yJ2_getChar_3b067 cJ2_getChar_3b067 2 (some .char), Cond.fieldLink RJ2 44 "java/lang/StringUTF16" "$assertionsDisabled" "Z", Cond.fieldLink RJ2 59 "java/lang/StringUTF16" "HI_BYTE_SHIFT" "I", Cond.fieldLink RJ2 63 "java/lang/StringUTF16" "LO_BYTE_SHIFT" "I", Cond.methodLink RX2 93 yX2_isDigit, Cond.static yX2_isDigit, Cond.code yX2_isDigit cX2_isDigit 1 (some .boolean)]
def wsX2_cutToken_r4 : List Cond := [Cond.methodLink RX2 96 yX2_numberAt, Cond.instanceMethod yX2_numberAt, Cond.selects RX2 yX2_numberAt yX2_numberAt, Cond.code yX2_numberAt cX2_numberAt 5 (some .int), Cond.methodLink RX2 107 Lib.Math.min.name, Cond.static Lib.Math.min.name, Cond.initialized "java/lang/Math", Cond.code Lib.Math.min.name Lib.Math.min.code 2 (some .int)]
def wsX2_cutToken : List Cond := .code yX2_cutToken cX2_cutToken 4 (some .int) :: ((wsX2_cutToken_r1 ++ (wsX2_cutToken_r2 ++ (wsX2_cutToken_r3 ++ wsX2_cutToken_r4))) ++ wsX20)
def wsX2_cutTokens_r1 : List Cond := [Cond.fieldLink RX2 15 "BeamSeats$Tape" "size" "I", Cond.fieldLink RX2 9 "BeamSeats$Tape" "bytes" "[B", Cond.fieldLink RX2 19 "BeamSeats$Tape" "tokens" "[I", Cond.fieldLink RX2 23 "BeamSeats$Tape" "starts" "[I", Cond.methodLink RX2 83 yX2_cutToken, Cond.instanceMethod yX2_cutToken, Cond.selects RX2 yX2_cutToken yX2_cutToken, Cond.initialized RX2, Cond.code yX2_cutToken cX2_cutToken 4 (some .int), Cond.fieldLink RX2 26 "BeamSeats$Tape" "values" "[I", Cond.methodLink RX2 86 yX2_isLetter, Cond.static yX2_isLetter, Cond.code yX2_isLetter cX2_isLetter 1 (some .boolean), Cond.methodLink RX2 90 yX2_wordAt, Cond.instanceMethod yX2_wordAt, Cond.selects RX2 yX2_wordAt yX2_wordAt, Cond.code yX2_wordAt cX2_wordAt 4 (some .int), Cond.methodLink RX2 99 yX2_wordOf, Cond.static yX2_wordOf, Cond.code yX2_wordOf cX2_wordOf 1 (some (.object "java/lang/String")), Cond.methodLink RX2 103 yX2_isSpelt, Cond.instanceMethod yX2_isSpelt, Cond.selects RX2 yX2_isSpelt yX2_isSpelt, Cond.code yX2_isSpelt cX2_isSpelt 5 (some .boolean)]
def wsX2_cutTokens_r2 : List Cond := [Cond.methodLink RX2 112 yJ0_length_8abf5, Cond.instanceMethod yJ0_length_8abf5, Cond.selects RJ0 yJ0_length_8abf5 yJ0_length_8abf5, Cond.initialized RJ0, Cond.code yJ0_length_8abf5 cJ0_length_8abf5 1 (some .int), Cond.fieldLink RJ0 9 "java/lang/String" "value" "[B", Cond.methodLink RJ0 335 yJ0_coder_7d493, Cond.instanceMethod yJ0_coder_7d493, Cond.selects RJ0 yJ0_coder_7d493 yJ0_coder_7d493, Cond.code yJ0_coder_7d493 cJ0_coder_7d493 1 (some .byte), Cond.fieldLink RJ0 38 "java/lang/String" "COMPACT_STRINGS" "Z", Cond.fieldLink RJ0 15 "java/lang/String" "coder" "B", Cond.methodLink RX2 118 yJ0_charAt_5068e, Cond.instanceMethod yJ0_charAt_5068e, Cond.selects RJ0 yJ0_charAt_5068e yJ0_charAt_5068e, Cond.code yJ0_charAt_5068e cJ0_charAt_5068e 2 (some .char), Cond.methodLink RJ0 492 yJ0_isLatin1_aae02, Cond.instanceMethod yJ0_isLatin1_aae02, Cond.selects RJ0 yJ0_isLatin1_aae02 yJ0_isLatin1_aae02, Cond.code yJ0_isLatin1_aae02 cJ0_isLatin1_aae02 1 (some .boolean), Cond.methodLink RJ0 495 yJ1_charAt_3b067, Cond.static yJ1_charAt_3b067, Cond.initialized RJ1, Cond.code yJ1_charAt_3b067 cJ1_charAt_3b067 2 (some .char)]
def wsX2_cutTokens_r3 : List Cond := [Cond.methodLink RJ1 9 yJ0_checkIndex_df160, Cond.static yJ0_checkIndex_df160, Cond.code yJ0_checkIndex_df160 cJ0_checkIndex_df160 2 none, Cond.fieldLink RJ0 1053 "jdk/internal/util/Preconditions" "SIOOBE_FORMATTER" "Ljava/util/function/BiFunction;", Cond.methodLink RJ0 1059 yJ3_checkIndex_8e157, Cond.static yJ3_checkIndex_8e157, Cond.initialized RJ3, Cond.code yJ3_checkIndex_8e157 cJ3_checkIndex_8e157 3 (some .int), Cond.methodLink RJ0 498 yJ2_charAt_3b067, Cond.static yJ2_charAt_3b067, Cond.initialized RJ2, Cond.code yJ2_charAt_3b067 cJ2_charAt_3b067 2 (some .char), Cond.methodLink RJ2 67 yJ2_checkIndex_2214a, Cond.static yJ2_checkIndex_2214a, Cond.code yJ2_checkIndex_2214a cJ2_checkIndex_2214a 2 none, Cond.methodLink RJ2 48 yJ2_length_9d52b, Cond.static yJ2_length_9d52b, Cond.code yJ2_length_9d52b cJ2_length_9d52b 1 (some .int), Cond.methodLink RJ2 414 yJ0_checkIndex_df160, Cond.methodLink RJ2 71 yJ2_getChar_3b067, Cond.static yJ2_getChar_3b067, Cond.code yJ2_getChar_3b067 cJ2_getChar_3b067 2 (some .char), Cond.fieldLink RJ2 44 "java/lang/StringUTF16" "$assertionsDisabled" "Z", Cond.fieldLink RJ2 59 "java/lang/StringUTF16" "HI_BYTE_SHIFT" "I"]
def wsX2_cutTokens_r4 : List Cond := [Cond.fieldLink RJ2 63 "java/lang/StringUTF16" "LO_BYTE_SHIFT" "I", Cond.methodLink RX2 93 yX2_isDigit, Cond.static yX2_isDigit, Cond.code yX2_isDigit cX2_isDigit 1 (some .boolean), Cond.methodLink RX2 96 yX2_numberAt, Cond.instanceMethod yX2_numberAt, Cond.selects RX2 yX2_numberAt yX2_numberAt, Cond.code yX2_numberAt cX2_numberAt 5 (some .int), Cond.methodLink RX2 107 Lib.Math.min.name, Cond.static Lib.Math.min.name, Cond.initialized "java/lang/Math", Cond.code Lib.Math.min.name Lib.Math.min.code 2 (some .int)]
def wsX2_cutTokens : List Cond := .code yX2_cutTokens cX2_cutTokens 4 none :: ((wsX2_cutTokens_r1 ++ (wsX2_cutTokens_r2 ++ (wsX2_cutTokens_r3 ++ wsX2_cutTokens_r4))) ++ wsX20)
def wsX3_within : List Cond := .code yX3_within cX3_within 3 (some .boolean) :: ([])
def wsX2_numberBehind : List Cond := .code yX2_numberBehind cX2_numberBehind 3 (some .boolean) :: ([.fieldLink RX2 29 "BeamSeats$Tape" "next" "I", .fieldLink RX2 19 "BeamSeats$Tape" "tokens" "[I", .fieldLink RX2 26 "BeamSeats$Tape" "values" "[I", .fieldLink RX2 32 "BeamSeats$Tape" "number" "I", .static yX3_within, .initialized RX3, .code yX3_within cX3_within 3 (some .boolean)] ++ wsX20)
def wsX2_tellPart : List Cond := .code yX2_tellPart cX2_tellPart 5 (some .boolean) :: ([.fieldLink RX2 19 "BeamSeats$Tape" "tokens" "[I", .fieldLink RX2 29 "BeamSeats$Tape" "next" "I", .fieldLink RX2 26 "BeamSeats$Tape" "values" "[I", .fieldLink RX2 32 "BeamSeats$Tape" "number" "I", .methodLink RX2 46 yX2_numberBehind, .instanceMethod yX2_numberBehind, .selects RX2 yX2_numberBehind yX2_numberBehind, .initialized RX2, .code yX2_numberBehind cX2_numberBehind 3 (some .boolean), .static yX3_within, .initialized RX3, .code yX3_within cX3_within 3 (some .boolean)] ++ wsX20)
def wsX2_tellThing_r1 : List Cond := [Cond.fieldLink RX2 61 "BeamSeats$Island" "size" "I", Cond.fieldLink RX2 32 "BeamSeats$Tape" "number" "I", Cond.fieldLink RX2 66 "BeamSeats$Island" "outs" "[I", Cond.fieldLink RX2 73 "BeamSeats$Island" "wets" "[I", Cond.fieldLink RX2 76 "BeamSeats$Island" "goals" "[I", Cond.methodLink RX2 46 yX2_numberBehind, Cond.instanceMethod yX2_numberBehind, Cond.selects RX2 yX2_numberBehind yX2_numberBehind, Cond.initialized RX2, Cond.code yX2_numberBehind cX2_numberBehind 3 (some .boolean), Cond.fieldLink RX2 29 "BeamSeats$Tape" "next" "I", Cond.fieldLink RX2 19 "BeamSeats$Tape" "tokens" "[I", Cond.fieldLink RX2 26 "BeamSeats$Tape" "values" "[I", Cond.static yX3_within, Cond.initialized RX3, Cond.code yX3_within cX3_within 3 (some .boolean), Cond.methodLink RX2 62 yX0_add, Cond.instanceMethod yX0_add, Cond.selects RX0 yX0_add yX0_add, Cond.initialized RX0, Cond.code yX0_add cX0_add 4 (some .int), Cond.fieldLink RX0 24 "BeamSeats$Island" "size" "I", Cond.fieldLink RX0 33 "BeamSeats$Island" "kinds" "[I", Cond.fieldLink RX0 37 "BeamSeats$Island" "places" "[I"]
def wsX2_tellThing_r2 : List Cond := [Cond.fieldLink RX0 40 "BeamSeats$Island" "outs" "[I", Cond.fieldLink RX0 43 "BeamSeats$Island" "wets" "[I", Cond.fieldLink RX0 46 "BeamSeats$Island" "goals" "[I", Cond.fieldLink RX0 49 "BeamSeats$Island" "times" "[I", Cond.methodLink RX2 69 yX2_tellPart, Cond.instanceMethod yX2_tellPart, Cond.selects RX2 yX2_tellPart yX2_tellPart, Cond.code yX2_tellPart cX2_tellPart 5 (some .boolean)]
def wsX2_tellThing : List Cond := .code yX2_tellThing cX2_tellThing 4 (some .boolean) :: ((wsX2_tellThing_r1 ++ wsX2_tellThing_r2) ++ wsX00 ++ wsX20)
def wsX2_tellItem_r1 : List Cond := [Cond.fieldLink RX2 19 "BeamSeats$Tape" "tokens" "[I", Cond.fieldLink RX2 29 "BeamSeats$Tape" "next" "I", Cond.fieldLink RX2 26 "BeamSeats$Tape" "values" "[I", Cond.fieldLink RX2 32 "BeamSeats$Tape" "number" "I", Cond.fieldLink RX2 50 "BeamSeats$Island" "bearing" "I", Cond.fieldLink RX2 55 "BeamSeats$Island" "speed" "I", Cond.fieldLink RX2 58 "BeamSeats$Island" "thick" "I", Cond.methodLink RX2 42 yX2_tellThing, Cond.instanceMethod yX2_tellThing, Cond.selects RX2 yX2_tellThing yX2_tellThing, Cond.initialized RX2, Cond.code yX2_tellThing cX2_tellThing 4 (some .boolean), Cond.fieldLink RX2 61 "BeamSeats$Island" "size" "I", Cond.fieldLink RX2 66 "BeamSeats$Island" "outs" "[I", Cond.fieldLink RX2 73 "BeamSeats$Island" "wets" "[I", Cond.fieldLink RX2 76 "BeamSeats$Island" "goals" "[I", Cond.methodLink RX2 46 yX2_numberBehind, Cond.instanceMethod yX2_numberBehind, Cond.selects RX2 yX2_numberBehind yX2_numberBehind, Cond.code yX2_numberBehind cX2_numberBehind 3 (some .boolean), Cond.static yX3_within, Cond.initialized RX3, Cond.code yX3_within cX3_within 3 (some .boolean), Cond.methodLink RX2 62 yX0_add]
def wsX2_tellItem_r2 : List Cond := [Cond.instanceMethod yX0_add, Cond.selects RX0 yX0_add yX0_add, Cond.initialized RX0, Cond.code yX0_add cX0_add 4 (some .int), Cond.fieldLink RX0 24 "BeamSeats$Island" "size" "I", Cond.fieldLink RX0 33 "BeamSeats$Island" "kinds" "[I", Cond.fieldLink RX0 37 "BeamSeats$Island" "places" "[I", Cond.fieldLink RX0 40 "BeamSeats$Island" "outs" "[I", Cond.fieldLink RX0 43 "BeamSeats$Island" "wets" "[I", Cond.fieldLink RX0 46 "BeamSeats$Island" "goals" "[I", Cond.fieldLink RX0 49 "BeamSeats$Island" "times" "[I", Cond.methodLink RX2 69 yX2_tellPart, Cond.instanceMethod yX2_tellPart, Cond.selects RX2 yX2_tellPart yX2_tellPart, Cond.code yX2_tellPart cX2_tellPart 5 (some .boolean)]
def wsX2_tellItem : List Cond := .code yX2_tellItem cX2_tellItem 3 (some .boolean) :: ((wsX2_tellItem_r1 ++ wsX2_tellItem_r2) ++ wsX20 ++ wsX00)
def wsX2_tell_r1 : List Cond := [Cond.fieldLink RX2 29 "BeamSeats$Tape" "next" "I", Cond.fieldLink RX2 19 "BeamSeats$Tape" "tokens" "[I", Cond.fieldLink RX2 23 "BeamSeats$Tape" "starts" "[I", Cond.methodLink RX2 35 yX2_cutTokens, Cond.instanceMethod yX2_cutTokens, Cond.selects RX2 yX2_cutTokens yX2_cutTokens, Cond.initialized RX2, Cond.code yX2_cutTokens cX2_cutTokens 4 none, Cond.fieldLink RX2 15 "BeamSeats$Tape" "size" "I", Cond.fieldLink RX2 9 "BeamSeats$Tape" "bytes" "[B", Cond.methodLink RX2 83 yX2_cutToken, Cond.instanceMethod yX2_cutToken, Cond.selects RX2 yX2_cutToken yX2_cutToken, Cond.code yX2_cutToken cX2_cutToken 4 (some .int), Cond.fieldLink RX2 26 "BeamSeats$Tape" "values" "[I", Cond.methodLink RX2 86 yX2_isLetter, Cond.static yX2_isLetter, Cond.code yX2_isLetter cX2_isLetter 1 (some .boolean), Cond.methodLink RX2 90 yX2_wordAt, Cond.instanceMethod yX2_wordAt, Cond.selects RX2 yX2_wordAt yX2_wordAt, Cond.code yX2_wordAt cX2_wordAt 4 (some .int), Cond.methodLink RX2 99 yX2_wordOf, Cond.static yX2_wordOf]
def wsX2_tell_r2 : List Cond := [Cond.code yX2_wordOf cX2_wordOf 1 (some (.object "java/lang/String")), Cond.methodLink RX2 103 yX2_isSpelt, Cond.instanceMethod yX2_isSpelt, Cond.selects RX2 yX2_isSpelt yX2_isSpelt, Cond.code yX2_isSpelt cX2_isSpelt 5 (some .boolean), Cond.methodLink RX2 112 yJ0_length_8abf5, Cond.instanceMethod yJ0_length_8abf5, Cond.selects RJ0 yJ0_length_8abf5 yJ0_length_8abf5, Cond.initialized RJ0, Cond.code yJ0_length_8abf5 cJ0_length_8abf5 1 (some .int), Cond.fieldLink RJ0 9 "java/lang/String" "value" "[B", Cond.methodLink RJ0 335 yJ0_coder_7d493, Cond.instanceMethod yJ0_coder_7d493, Cond.selects RJ0 yJ0_coder_7d493 yJ0_coder_7d493, Cond.code yJ0_coder_7d493 cJ0_coder_7d493 1 (some .byte), Cond.fieldLink RJ0 38 "java/lang/String" "COMPACT_STRINGS" "Z", Cond.fieldLink RJ0 15 "java/lang/String" "coder" "B", Cond.methodLink RX2 118 yJ0_charAt_5068e, Cond.instanceMethod yJ0_charAt_5068e, Cond.selects RJ0 yJ0_charAt_5068e yJ0_charAt_5068e, Cond.code yJ0_charAt_5068e cJ0_charAt_5068e 2 (some .char), Cond.methodLink RJ0 492 yJ0_isLatin1_aae02, Cond.instanceMethod yJ0_isLatin1_aae02, Cond.selects RJ0 yJ0_isLatin1_aae02 yJ0_isLatin1_aae02]
def wsX2_tell_r3 : List Cond := [Cond.code yJ0_isLatin1_aae02 cJ0_isLatin1_aae02 1 (some .boolean), Cond.methodLink RJ0 495 yJ1_charAt_3b067, Cond.static yJ1_charAt_3b067, Cond.initialized RJ1, Cond.code yJ1_charAt_3b067 cJ1_charAt_3b067 2 (some .char), Cond.methodLink RJ1 9 yJ0_checkIndex_df160, Cond.static yJ0_checkIndex_df160, Cond.code yJ0_checkIndex_df160 cJ0_checkIndex_df160 2 none, Cond.fieldLink RJ0 1053 "jdk/internal/util/Preconditions" "SIOOBE_FORMATTER" "Ljava/util/function/BiFunction;", Cond.methodLink RJ0 1059 yJ3_checkIndex_8e157, Cond.static yJ3_checkIndex_8e157, Cond.initialized RJ3, Cond.code yJ3_checkIndex_8e157 cJ3_checkIndex_8e157 3 (some .int), Cond.methodLink RJ0 498 yJ2_charAt_3b067, Cond.static yJ2_charAt_3b067, Cond.initialized RJ2, Cond.code yJ2_charAt_3b067 cJ2_charAt_3b067 2 (some .char), Cond.methodLink RJ2 67 yJ2_checkIndex_2214a, Cond.static yJ2_checkIndex_2214a, Cond.code yJ2_checkIndex_2214a cJ2_checkIndex_2214a 2 none, Cond.methodLink RJ2 48 yJ2_length_9d52b, Cond.static yJ2_length_9d52b, Cond.code yJ2_length_9d52b cJ2_length_9d52b 1 (some .int), Cond.methodLink RJ2 414 yJ0_checkIndex_df160]
def wsX2_tell_r4 : List Cond := [Cond.methodLink RJ2 71 yJ2_getChar_3b067, Cond.static yJ2_getChar_3b067, Cond.code yJ2_getChar_3b067 cJ2_getChar_3b067 2 (some .char), Cond.fieldLink RJ2 44 "java/lang/StringUTF16" "$assertionsDisabled" "Z", Cond.fieldLink RJ2 59 "java/lang/StringUTF16" "HI_BYTE_SHIFT" "I", Cond.fieldLink RJ2 63 "java/lang/StringUTF16" "LO_BYTE_SHIFT" "I", Cond.methodLink RX2 93 yX2_isDigit, Cond.static yX2_isDigit, Cond.code yX2_isDigit cX2_isDigit 1 (some .boolean), Cond.methodLink RX2 96 yX2_numberAt, Cond.instanceMethod yX2_numberAt, Cond.selects RX2 yX2_numberAt yX2_numberAt, Cond.code yX2_numberAt cX2_numberAt 5 (some .int), Cond.methodLink RX2 107 Lib.Math.min.name, Cond.static Lib.Math.min.name, Cond.initialized "java/lang/Math", Cond.code Lib.Math.min.name Lib.Math.min.code 2 (some .int), Cond.methodLink RX2 38 yX2_tellItem, Cond.instanceMethod yX2_tellItem, Cond.selects RX2 yX2_tellItem yX2_tellItem, Cond.code yX2_tellItem cX2_tellItem 3 (some .boolean), Cond.fieldLink RX2 32 "BeamSeats$Tape" "number" "I", Cond.fieldLink RX2 50 "BeamSeats$Island" "bearing" "I", Cond.fieldLink RX2 55 "BeamSeats$Island" "speed" "I"]
def wsX2_tell_r5 : List Cond := [Cond.fieldLink RX2 58 "BeamSeats$Island" "thick" "I", Cond.methodLink RX2 42 yX2_tellThing, Cond.instanceMethod yX2_tellThing, Cond.selects RX2 yX2_tellThing yX2_tellThing, Cond.code yX2_tellThing cX2_tellThing 4 (some .boolean), Cond.fieldLink RX2 61 "BeamSeats$Island" "size" "I", Cond.fieldLink RX2 66 "BeamSeats$Island" "outs" "[I", Cond.fieldLink RX2 73 "BeamSeats$Island" "wets" "[I", Cond.fieldLink RX2 76 "BeamSeats$Island" "goals" "[I", Cond.methodLink RX2 46 yX2_numberBehind, Cond.instanceMethod yX2_numberBehind, Cond.selects RX2 yX2_numberBehind yX2_numberBehind, Cond.code yX2_numberBehind cX2_numberBehind 3 (some .boolean), Cond.static yX3_within, Cond.initialized RX3, Cond.code yX3_within cX3_within 3 (some .boolean), Cond.methodLink RX2 62 yX0_add, Cond.instanceMethod yX0_add, Cond.selects RX0 yX0_add yX0_add, Cond.initialized RX0, Cond.code yX0_add cX0_add 4 (some .int), Cond.fieldLink RX0 24 "BeamSeats$Island" "size" "I", Cond.fieldLink RX0 33 "BeamSeats$Island" "kinds" "[I", Cond.fieldLink RX0 37 "BeamSeats$Island" "places" "[I"]
def wsX2_tell_r6 : List Cond := [Cond.fieldLink RX0 40 "BeamSeats$Island" "outs" "[I", Cond.fieldLink RX0 43 "BeamSeats$Island" "wets" "[I", Cond.fieldLink RX0 46 "BeamSeats$Island" "goals" "[I", Cond.fieldLink RX0 49 "BeamSeats$Island" "times" "[I", Cond.methodLink RX2 69 yX2_tellPart, Cond.instanceMethod yX2_tellPart, Cond.selects RX2 yX2_tellPart yX2_tellPart, Cond.code yX2_tellPart cX2_tellPart 5 (some .boolean)]
def wsX2_tell : List Cond := .code yX2_tell cX2_tell 3 (some .int) :: ((wsX2_tell_r1 ++ (wsX2_tell_r2 ++ (wsX2_tell_r3 ++ (wsX2_tell_r4 ++ (wsX2_tell_r5 ++ wsX2_tell_r6))))) ++ wsX20 ++ wsX00)
def wsX3_init_r1 : List Cond := [Cond.methodLink RX3 1 objectInit, Cond.instanceMethod objectInit, Cond.code objectInit ⟨#[0xb1]⟩ 1 none, Cond.classLink RX3 7 RX0, Cond.instantiable RX0 13, Cond.initialized RX0, Cond.fieldLink RX3 10 "BeamSeats" "real" "LBeamSeats$Island;", Cond.fieldLink RX3 16 "BeamSeats" "trial" "LBeamSeats$Island;", Cond.fieldLink RX3 19 "BeamSeats" "kept" "LBeamSeats$Island;", Cond.fieldLink RX3 22 "BeamSeats" "isKept" "Z", Cond.classLink RX3 26 RX2, Cond.instantiable RX2 7, Cond.initialized RX2, Cond.fieldLink RX3 29 "BeamSeats" "tape" "LBeamSeats$Tape;", Cond.classLink RX3 33 RX1, Cond.fieldLink RX3 35 "BeamSeats" "sheets" "[LBeamSeats$Sheet;", Cond.arrayClass .int, Cond.fieldLink RX3 39 "BeamSeats" "findings" "[I", Cond.instantiable RX1 3, Cond.initialized RX1, Cond.instanceMethod yX0_init, Cond.code yX0_init cX0_init 1 none, Cond.methodLink RX0 3 objectInit, Cond.fieldLink RX0 9 "BeamSeats$Island" "second" "I"]
def wsX3_init_r2 : List Cond := [Cond.fieldLink RX0 15 "BeamSeats$Island" "bearing" "I", Cond.fieldLink RX0 18 "BeamSeats$Island" "speed" "I", Cond.fieldLink RX0 21 "BeamSeats$Island" "thick" "I", Cond.fieldLink RX0 24 "BeamSeats$Island" "size" "I", Cond.fieldLink RX0 27 "BeamSeats$Island" "onSet" "I", Cond.fieldLink RX0 30 "BeamSeats$Island" "lostSet" "I", Cond.fieldLink RX0 33 "BeamSeats$Island" "kinds" "[I", Cond.fieldLink RX0 37 "BeamSeats$Island" "places" "[I", Cond.fieldLink RX0 40 "BeamSeats$Island" "outs" "[I", Cond.fieldLink RX0 43 "BeamSeats$Island" "wets" "[I", Cond.fieldLink RX0 46 "BeamSeats$Island" "goals" "[I", Cond.fieldLink RX0 49 "BeamSeats$Island" "times" "[I", Cond.instanceMethod yX2_init, Cond.code yX2_init cX2_init 1 none, Cond.methodLink RX2 3 objectInit, Cond.arrayClass .byte, Cond.fieldLink RX2 9 "BeamSeats$Tape" "bytes" "[B", Cond.fieldLink RX2 15 "BeamSeats$Tape" "size" "I", Cond.fieldLink RX2 19 "BeamSeats$Tape" "tokens" "[I", Cond.fieldLink RX2 23 "BeamSeats$Tape" "starts" "[I", Cond.fieldLink RX2 26 "BeamSeats$Tape" "values" "[I", Cond.fieldLink RX2 29 "BeamSeats$Tape" "next" "I", Cond.fieldLink RX2 32 "BeamSeats$Tape" "number" "I", Cond.instanceMethod yX1_init]
def wsX3_init_r3 : List Cond := [Cond.code yX1_init cX1_init 1 none, Cond.methodLink RX1 3 objectInit, Cond.fieldLink RX1 9 "BeamSeats$Sheet" "bits" "I", Cond.fieldLink RX1 15 "BeamSeats$Sheet" "size" "I", Cond.arrayClass .long, Cond.fieldLink RX1 18 "BeamSeats$Sheet" "numbers" "[J"]
def wsX3_init : List Cond := .code yX3_init cX3_init 2 none :: ((wsX3_init_r1 ++ (wsX3_init_r2 ++ wsX3_init_r3)) ++ wsX00 ++ wsX30 ++ wsX20 ++ wsX10)
def wsX3_found : List Cond := .code yX3_found cX3_found 3 (some .int) :: ([.constant RX3 58 (-1000000001), .fieldLink RX3 39 "BeamSeats" "findings" "[I", .methodLink RX3 44 yX3_within, .static yX3_within, .initialized RX3, .code yX3_within cX3_within 3 (some .boolean)] ++ wsX30)
def wsX3_beam : List Cond := .code yX3_beam cX3_beam 4 (some .int) :: ([.fieldLink RX3 10 "BeamSeats" "real" "LBeamSeats$Island;", .fieldLink RX3 48 "BeamSeats$Island" "bearing" "I", .fieldLink RX3 52 "BeamSeats$Island" "speed" "I", .fieldLink RX3 55 "BeamSeats$Island" "thick" "I", .constant RX3 58 (-1000000001), .methodLink RX3 44 yX3_within, .static yX3_within, .initialized RX3, .code yX3_within cX3_within 3 (some .boolean), .methodLink RX3 59 yX3_found, .instanceMethod yX3_found, .selects RX3 yX3_found yX3_found, .code yX3_found cX3_found 3 (some .int), .fieldLink RX3 39 "BeamSeats" "findings" "[I"] ++ wsX30 ++ wsX00)
def wsX3_now_r1 : List Cond := [Cond.fieldLink RX3 10 "BeamSeats" "real" "LBeamSeats$Island;", Cond.fieldLink RX3 63 "BeamSeats$Island" "second" "I", Cond.fieldLink RX3 48 "BeamSeats$Island" "bearing" "I", Cond.fieldLink RX3 52 "BeamSeats$Island" "speed" "I", Cond.fieldLink RX3 55 "BeamSeats$Island" "thick" "I", Cond.fieldLink RX3 66 "BeamSeats$Island" "onSet" "I", Cond.fieldLink RX3 69 "BeamSeats$Island" "lostSet" "I", Cond.constant RX3 58 (-1000000001), Cond.methodLink RX3 72 yX0_weightOfAll, Cond.instanceMethod yX0_weightOfAll, Cond.selects RX0 yX0_weightOfAll yX0_weightOfAll, Cond.initialized RX0, Cond.code yX0_weightOfAll cX0_weightOfAll 3 (some .int), Cond.fieldLink RX0 24 "BeamSeats$Island" "size" "I", Cond.methodLink RX0 52 yX0_isOn, Cond.instanceMethod yX0_isOn, Cond.selects RX0 yX0_isOn yX0_isOn, Cond.code yX0_isOn cX0_isOn 2 (some .boolean), Cond.fieldLink RX0 27 "BeamSeats$Island" "onSet" "I", Cond.methodLink RX0 56 yX0_weightOf, Cond.instanceMethod yX0_weightOf, Cond.selects RX0 yX0_weightOf yX0_weightOf, Cond.code yX0_weightOf cX0_weightOf 3 (some .int), Cond.fieldLink RX0 43 "BeamSeats$Island" "wets" "[I"]
def wsX3_now_r2 : List Cond := [Cond.fieldLink RX0 33 "BeamSeats$Island" "kinds" "[I", Cond.methodLink RX3 59 yX3_found, Cond.instanceMethod yX3_found, Cond.selects RX3 yX3_found yX3_found, Cond.initialized RX3, Cond.code yX3_found cX3_found 3 (some .int), Cond.fieldLink RX3 39 "BeamSeats" "findings" "[I", Cond.methodLink RX3 44 yX3_within, Cond.static yX3_within, Cond.code yX3_within cX3_within 3 (some .boolean)]
def wsX3_now : List Cond := .code yX3_now cX3_now 2 (some .int) :: ((wsX3_now_r1 ++ wsX3_now_r2) ++ wsX30 ++ wsX00)
def wsX3_load_r1 : List Cond := [Cond.constant RX3 58 (-1000000001), Cond.fieldLink RX3 10 "BeamSeats" "real" "LBeamSeats$Island;", Cond.methodLink RX3 44 yX3_within, Cond.static yX3_within, Cond.initialized RX3, Cond.code yX3_within cX3_within 3 (some .boolean), Cond.methodLink RX3 59 yX3_found, Cond.instanceMethod yX3_found, Cond.selects RX3 yX3_found yX3_found, Cond.code yX3_found cX3_found 3 (some .int), Cond.fieldLink RX3 39 "BeamSeats" "findings" "[I", Cond.methodLink RX3 76 yX0_bears, Cond.instanceMethod yX0_bears, Cond.selects RX0 yX0_bears yX0_bears, Cond.initialized RX0, Cond.code yX0_bears cX0_bears 2 (some .int), Cond.fieldLink RX0 21 "BeamSeats$Island" "thick" "I", Cond.methodLink RX0 60 Lib.Math.max.name, Cond.static Lib.Math.max.name, Cond.initialized "java/lang/Math", Cond.code Lib.Math.max.name Lib.Math.max.code 2 (some .int), Cond.methodLink RX3 79 yX0_weightAt, Cond.instanceMethod yX0_weightAt, Cond.selects RX0 yX0_weightAt yX0_weightAt]
def wsX3_load_r2 : List Cond := [Cond.code yX0_weightAt cX0_weightAt 4 (some .int), Cond.fieldLink RX0 24 "BeamSeats$Island" "size" "I", Cond.fieldLink RX0 40 "BeamSeats$Island" "outs" "[I", Cond.methodLink RX0 52 yX0_isOn, Cond.instanceMethod yX0_isOn, Cond.selects RX0 yX0_isOn yX0_isOn, Cond.code yX0_isOn cX0_isOn 2 (some .boolean), Cond.fieldLink RX0 27 "BeamSeats$Island" "onSet" "I", Cond.methodLink RX0 56 yX0_weightOf, Cond.instanceMethod yX0_weightOf, Cond.selects RX0 yX0_weightOf yX0_weightOf, Cond.code yX0_weightOf cX0_weightOf 3 (some .int), Cond.fieldLink RX0 43 "BeamSeats$Island" "wets" "[I", Cond.fieldLink RX0 33 "BeamSeats$Island" "kinds" "[I"]
def wsX3_load : List Cond := .code yX3_load cX3_load 3 (some .int) :: ((wsX3_load_r1 ++ wsX3_load_r2) ++ wsX30 ++ wsX00)
def wsX3_thing_r1 : List Cond := [Cond.constant RX3 58 (-1000000001), Cond.fieldLink RX3 10 "BeamSeats" "real" "LBeamSeats$Island;", Cond.fieldLink RX3 82 "BeamSeats$Island" "size" "I", Cond.constant RX3 85 (-1000000002), Cond.methodLink RX3 44 yX3_within, Cond.static yX3_within, Cond.initialized RX3, Cond.code yX3_within cX3_within 3 (some .boolean), Cond.methodLink RX3 59 yX3_found, Cond.instanceMethod yX3_found, Cond.selects RX3 yX3_found yX3_found, Cond.code yX3_found cX3_found 3 (some .int), Cond.fieldLink RX3 39 "BeamSeats" "findings" "[I", Cond.methodLink RX3 86 yX0_add, Cond.instanceMethod yX0_add, Cond.selects RX0 yX0_add yX0_add, Cond.initialized RX0, Cond.code yX0_add cX0_add 4 (some .int), Cond.fieldLink RX0 24 "BeamSeats$Island" "size" "I", Cond.fieldLink RX0 33 "BeamSeats$Island" "kinds" "[I", Cond.fieldLink RX0 37 "BeamSeats$Island" "places" "[I", Cond.fieldLink RX0 40 "BeamSeats$Island" "outs" "[I", Cond.fieldLink RX0 43 "BeamSeats$Island" "wets" "[I", Cond.fieldLink RX0 46 "BeamSeats$Island" "goals" "[I"]
def wsX3_thing_r2 : List Cond := [Cond.fieldLink RX0 49 "BeamSeats$Island" "times" "[I"]
def wsX3_thing : List Cond := .code yX3_thing cX3_thing 3 (some .int) :: ((wsX3_thing_r1 ++ wsX3_thing_r2) ++ wsX30 ++ wsX00)
def wsX3_of_r1 : List Cond := [Cond.fieldLink RX3 10 "BeamSeats" "real" "LBeamSeats$Island;", Cond.constant RX3 58 (-1000000001), Cond.fieldLink RX3 94 "BeamSeats$Island" "kinds" "[I", Cond.fieldLink RX3 97 "BeamSeats$Island" "places" "[I", Cond.fieldLink RX3 100 "BeamSeats$Island" "outs" "[I", Cond.fieldLink RX3 106 "BeamSeats$Island" "wets" "[I", Cond.fieldLink RX3 109 "BeamSeats$Island" "goals" "[I", Cond.fieldLink RX3 115 "BeamSeats$Island" "times" "[I", Cond.methodLink RX3 90 yX0_has, Cond.instanceMethod yX0_has, Cond.selects RX0 yX0_has yX0_has, Cond.initialized RX0, Cond.code yX0_has cX0_has 2 (some .boolean), Cond.fieldLink RX0 24 "BeamSeats$Island" "size" "I", Cond.methodLink RX3 59 yX3_found, Cond.instanceMethod yX3_found, Cond.selects RX3 yX3_found yX3_found, Cond.initialized RX3, Cond.code yX3_found cX3_found 3 (some .int), Cond.fieldLink RX3 39 "BeamSeats" "findings" "[I", Cond.methodLink RX3 44 yX3_within, Cond.static yX3_within, Cond.code yX3_within cX3_within 3 (some .boolean), Cond.methodLink RX3 103 yX0_isOn]
def wsX3_of_r2 : List Cond := [Cond.instanceMethod yX0_isOn, Cond.selects RX0 yX0_isOn yX0_isOn, Cond.code yX0_isOn cX0_isOn 2 (some .boolean), Cond.fieldLink RX0 27 "BeamSeats$Island" "onSet" "I", Cond.methodLink RX3 112 yX0_isLost, Cond.instanceMethod yX0_isLost, Cond.selects RX0 yX0_isLost yX0_isLost, Cond.code yX0_isLost cX0_isLost 2 (some .boolean), Cond.fieldLink RX0 30 "BeamSeats$Island" "lostSet" "I", Cond.methodLink RX3 118 yX0_weightOf, Cond.instanceMethod yX0_weightOf, Cond.selects RX0 yX0_weightOf yX0_weightOf, Cond.code yX0_weightOf cX0_weightOf 3 (some .int), Cond.fieldLink RX0 43 "BeamSeats$Island" "wets" "[I", Cond.fieldLink RX0 33 "BeamSeats$Island" "kinds" "[I", Cond.methodLink RX3 121 yX0_dries, Cond.instanceMethod yX0_dries, Cond.selects RX0 yX0_dries yX0_dries, Cond.code yX0_dries cX0_dries 3 (some .int), Cond.fieldLink RX0 40 "BeamSeats$Island" "outs" "[I", Cond.fieldLink RX0 18 "BeamSeats$Island" "speed" "I"]
def wsX3_of : List Cond := .code yX3_of cX3_of 3 (some .int) :: ((wsX3_of_r1 ++ wsX3_of_r2) ++ wsX30 ++ wsX00)
def wsX3_rowToSet : List Cond := .code yX3_rowToSet cX3_rowToSet 2 (some (.array .int)) :: ([.fieldLink RX3 10 "BeamSeats" "real" "LBeamSeats$Island;", .fieldLink RX3 100 "BeamSeats$Island" "outs" "[I", .fieldLink RX3 106 "BeamSeats$Island" "wets" "[I", .fieldLink RX3 109 "BeamSeats$Island" "goals" "[I", .fieldLink RX3 115 "BeamSeats$Island" "times" "[I"] ++ wsX30 ++ wsX00)
def wsX3_mostToSet : List Cond := .code yX3_mostToSet cX3_mostToSet 1 (some .int) :: ([])
def wsX3_set_r1 : List Cond := [Cond.fieldLink RX3 10 "BeamSeats" "real" "LBeamSeats$Island;", Cond.constant RX3 58 (-1000000001), Cond.methodLink RX3 124 yX3_rowToSet, Cond.instanceMethod yX3_rowToSet, Cond.selects RX3 yX3_rowToSet yX3_rowToSet, Cond.initialized RX3, Cond.code yX3_rowToSet cX3_rowToSet 2 (some (.array .int)), Cond.fieldLink RX3 100 "BeamSeats$Island" "outs" "[I", Cond.fieldLink RX3 106 "BeamSeats$Island" "wets" "[I", Cond.fieldLink RX3 109 "BeamSeats$Island" "goals" "[I", Cond.fieldLink RX3 115 "BeamSeats$Island" "times" "[I", Cond.methodLink RX3 90 yX0_has, Cond.instanceMethod yX0_has, Cond.selects RX0 yX0_has yX0_has, Cond.initialized RX0, Cond.code yX0_has cX0_has 2 (some .boolean), Cond.fieldLink RX0 24 "BeamSeats$Island" "size" "I", Cond.methodLink RX3 128 yX3_mostToSet, Cond.static yX3_mostToSet, Cond.code yX3_mostToSet cX3_mostToSet 1 (some .int), Cond.methodLink RX3 44 yX3_within, Cond.static yX3_within, Cond.code yX3_within cX3_within 3 (some .boolean), Cond.methodLink RX3 59 yX3_found]
def wsX3_set_r2 : List Cond := [Cond.instanceMethod yX3_found, Cond.selects RX3 yX3_found yX3_found, Cond.code yX3_found cX3_found 3 (some .int), Cond.fieldLink RX3 39 "BeamSeats" "findings" "[I"]
def wsX3_set : List Cond := .code yX3_set cX3_set 6 (some .int) :: ((wsX3_set_r1 ++ wsX3_set_r2) ++ wsX30 ++ wsX00)
def wsX3_carry_r1 : List Cond := [Cond.fieldLink RX3 10 "BeamSeats" "real" "LBeamSeats$Island;", Cond.constant RX3 58 (-1000000001), Cond.constant RX3 131 (-1000000005), Cond.fieldLink RX3 97 "BeamSeats$Island" "places" "[I", Cond.fieldLink RX3 69 "BeamSeats$Island" "lostSet" "I", Cond.methodLink RX3 90 yX0_has, Cond.instanceMethod yX0_has, Cond.selects RX0 yX0_has yX0_has, Cond.initialized RX0, Cond.code yX0_has cX0_has 2 (some .boolean), Cond.fieldLink RX0 24 "BeamSeats$Island" "size" "I", Cond.methodLink RX3 44 yX3_within, Cond.static yX3_within, Cond.initialized RX3, Cond.code yX3_within cX3_within 3 (some .boolean), Cond.methodLink RX3 59 yX3_found, Cond.instanceMethod yX3_found, Cond.selects RX3 yX3_found yX3_found, Cond.code yX3_found cX3_found 3 (some .int), Cond.fieldLink RX3 39 "BeamSeats" "findings" "[I", Cond.methodLink RX3 103 yX0_isOn, Cond.instanceMethod yX0_isOn, Cond.selects RX0 yX0_isOn yX0_isOn, Cond.code yX0_isOn cX0_isOn 2 (some .boolean)]
def wsX3_carry_r2 : List Cond := [Cond.fieldLink RX0 27 "BeamSeats$Island" "onSet" "I"]
def wsX3_carry : List Cond := .code yX3_carry cX3_carry 4 (some .int) :: ((wsX3_carry_r1 ++ wsX3_carry_r2) ++ wsX30 ++ wsX00)
def wsX3_turn : List Cond := .code yX3_turn cX3_turn 4 (some .int) :: ([.fieldLink RX3 10 "BeamSeats" "real" "LBeamSeats$Island;", .constant RX3 58 (-1000000001), .fieldLink RX3 94 "BeamSeats$Island" "kinds" "[I", .methodLink RX3 90 yX0_has, .instanceMethod yX0_has, .selects RX0 yX0_has yX0_has, .initialized RX0, .code yX0_has cX0_has 2 (some .boolean), .fieldLink RX0 24 "BeamSeats$Island" "size" "I", .methodLink RX3 44 yX3_within, .static yX3_within, .initialized RX3, .code yX3_within cX3_within 3 (some .boolean), .methodLink RX3 59 yX3_found, .instanceMethod yX3_found, .selects RX3 yX3_found yX3_found, .code yX3_found cX3_found 3 (some .int), .fieldLink RX3 39 "BeamSeats" "findings" "[I"] ++ wsX30 ++ wsX00)
def wsX3_isOfKind : List Cond := .code yX3_isOfKind cX3_isOfKind 4 (some .boolean) :: ([.fieldLink RX3 220 "BeamSeats" "KIND_ABOVE" "[I", .methodLink RX3 44 yX3_within, .static yX3_within, .initialized RX3, .code yX3_within cX3_within 3 (some .boolean)])
def wsX3_as : List Cond := .code yX3_as cX3_as 3 (some .int) :: ([.fieldLink RX3 10 "BeamSeats" "real" "LBeamSeats$Island;", .constant RX3 58 (-1000000001), .fieldLink RX3 94 "BeamSeats$Island" "kinds" "[I", .fieldLink RX3 106 "BeamSeats$Island" "wets" "[I", .constant RX3 136 (-1000000003), .methodLink RX3 90 yX0_has, .instanceMethod yX0_has, .selects RX0 yX0_has yX0_has, .initialized RX0, .code yX0_has cX0_has 2 (some .boolean), .fieldLink RX0 24 "BeamSeats$Island" "size" "I", .methodLink RX3 44 yX3_within, .static yX3_within, .initialized RX3, .code yX3_within cX3_within 3 (some .boolean), .methodLink RX3 59 yX3_found, .instanceMethod yX3_found, .selects RX3 yX3_found yX3_found, .code yX3_found cX3_found 3 (some .int), .fieldLink RX3 39 "BeamSeats" "findings" "[I", .methodLink RX3 132 yX3_isOfKind, .static yX3_isOfKind, .code yX3_isOfKind cX3_isOfKind 4 (some .boolean), .fieldLink RX3 220 "BeamSeats" "KIND_ABOVE" "[I"] ++ wsX30 ++ wsX00)
def wsX3_lay_r1 : List Cond := [Cond.fieldLink RX3 10 "BeamSeats" "real" "LBeamSeats$Island;", Cond.constant RX3 58 (-1000000001), Cond.constant RX3 131 (-1000000005), Cond.constant RX3 85 (-1000000002), Cond.fieldLink RX3 97 "BeamSeats$Island" "places" "[I", Cond.fieldLink RX3 48 "BeamSeats$Island" "bearing" "I", Cond.fieldLink RX3 100 "BeamSeats$Island" "outs" "[I", Cond.methodLink RX3 90 yX0_has, Cond.instanceMethod yX0_has, Cond.selects RX0 yX0_has yX0_has, Cond.initialized RX0, Cond.code yX0_has cX0_has 2 (some .boolean), Cond.fieldLink RX0 24 "BeamSeats$Island" "size" "I", Cond.methodLink RX3 59 yX3_found, Cond.instanceMethod yX3_found, Cond.selects RX3 yX3_found yX3_found, Cond.initialized RX3, Cond.code yX3_found cX3_found 3 (some .int), Cond.fieldLink RX3 39 "BeamSeats" "findings" "[I", Cond.methodLink RX3 44 yX3_within, Cond.static yX3_within, Cond.code yX3_within cX3_within 3 (some .boolean), Cond.methodLink RX3 103 yX0_isOn, Cond.instanceMethod yX0_isOn]
def wsX3_lay_r2 : List Cond := [Cond.selects RX0 yX0_isOn yX0_isOn, Cond.code yX0_isOn cX0_isOn 2 (some .boolean), Cond.fieldLink RX0 27 "BeamSeats$Island" "onSet" "I", Cond.methodLink RX3 112 yX0_isLost, Cond.instanceMethod yX0_isLost, Cond.selects RX0 yX0_isLost yX0_isLost, Cond.code yX0_isLost cX0_isLost 2 (some .boolean), Cond.fieldLink RX0 30 "BeamSeats$Island" "lostSet" "I", Cond.methodLink RX3 137 yX0_isBorne, Cond.instanceMethod yX0_isBorne, Cond.selects RX0 yX0_isBorne yX0_isBorne, Cond.code yX0_isBorne cX0_isBorne 2 (some .boolean), Cond.fieldLink RX0 40 "BeamSeats$Island" "outs" "[I", Cond.methodLink RX0 66 yX0_weightAt, Cond.instanceMethod yX0_weightAt, Cond.selects RX0 yX0_weightAt yX0_weightAt, Cond.code yX0_weightAt cX0_weightAt 4 (some .int), Cond.methodLink RX0 52 yX0_isOn, Cond.methodLink RX0 56 yX0_weightOf, Cond.instanceMethod yX0_weightOf, Cond.selects RX0 yX0_weightOf yX0_weightOf, Cond.code yX0_weightOf cX0_weightOf 3 (some .int), Cond.fieldLink RX0 43 "BeamSeats$Island" "wets" "[I", Cond.fieldLink RX0 33 "BeamSeats$Island" "kinds" "[I"]
def wsX3_lay_r3 : List Cond := [Cond.methodLink RX0 69 yX0_bears, Cond.instanceMethod yX0_bears, Cond.selects RX0 yX0_bears yX0_bears, Cond.code yX0_bears cX0_bears 2 (some .int), Cond.fieldLink RX0 21 "BeamSeats$Island" "thick" "I", Cond.methodLink RX0 60 Lib.Math.max.name, Cond.static Lib.Math.max.name, Cond.initialized "java/lang/Math", Cond.code Lib.Math.max.name Lib.Math.max.code 2 (some .int), Cond.methodLink RX3 140 yX0_comeOn, Cond.instanceMethod yX0_comeOn, Cond.selects RX0 yX0_comeOn yX0_comeOn, Cond.code yX0_comeOn cX0_comeOn 2 none, Cond.fieldLink RX0 49 "BeamSeats$Island" "times" "[I", Cond.methodLink RX0 77 Lib.Math.min.name, Cond.static Lib.Math.min.name, Cond.code Lib.Math.min.name Lib.Math.min.code 2 (some .int), Cond.methodLink RX3 79 yX0_weightAt]
def wsX3_lay : List Cond := .code yX3_lay cX3_lay 2 (some .int) :: ((wsX3_lay_r1 ++ (wsX3_lay_r2 ++ wsX3_lay_r3)) ++ wsX30 ++ wsX00)
def wsX3_take_r1 : List Cond := [Cond.fieldLink RX3 10 "BeamSeats" "real" "LBeamSeats$Island;", Cond.constant RX3 58 (-1000000001), Cond.constant RX3 131 (-1000000005), Cond.fieldLink RX3 48 "BeamSeats$Island" "bearing" "I", Cond.methodLink RX3 90 yX0_has, Cond.instanceMethod yX0_has, Cond.selects RX0 yX0_has yX0_has, Cond.initialized RX0, Cond.code yX0_has cX0_has 2 (some .boolean), Cond.fieldLink RX0 24 "BeamSeats$Island" "size" "I", Cond.methodLink RX3 59 yX3_found, Cond.instanceMethod yX3_found, Cond.selects RX3 yX3_found yX3_found, Cond.initialized RX3, Cond.code yX3_found cX3_found 3 (some .int), Cond.fieldLink RX3 39 "BeamSeats" "findings" "[I", Cond.methodLink RX3 44 yX3_within, Cond.static yX3_within, Cond.code yX3_within cX3_within 3 (some .boolean), Cond.methodLink RX3 103 yX0_isOn, Cond.instanceMethod yX0_isOn, Cond.selects RX0 yX0_isOn yX0_isOn, Cond.code yX0_isOn cX0_isOn 2 (some .boolean), Cond.fieldLink RX0 27 "BeamSeats$Island" "onSet" "I"]
def wsX3_take_r2 : List Cond := [Cond.methodLink RX3 144 yX0_goOff, Cond.instanceMethod yX0_goOff, Cond.selects RX0 yX0_goOff yX0_goOff, Cond.code yX0_goOff cX0_goOff 2 none, Cond.fieldLink RX0 37 "BeamSeats$Island" "places" "[I", Cond.fieldLink RX0 15 "BeamSeats$Island" "bearing" "I"]
def wsX3_take : List Cond := .code yX3_take cX3_take 2 (some .int) :: ((wsX3_take_r1 ++ wsX3_take_r2) ++ wsX30 ++ wsX00)
def wsX3_seconds_r1 : List Cond := [Cond.constant RX3 58 (-1000000001), Cond.fieldLink RX3 10 "BeamSeats" "real" "LBeamSeats$Island;", Cond.fieldLink RX3 63 "BeamSeats$Island" "second" "I", Cond.constant RX3 147 (99999), Cond.constant RX3 131 (-1000000005), Cond.fieldLink RX3 66 "BeamSeats$Island" "onSet" "I", Cond.methodLink RX3 44 yX3_within, Cond.static yX3_within, Cond.initialized RX3, Cond.code yX3_within cX3_within 3 (some .boolean), Cond.methodLink RX3 59 yX3_found, Cond.instanceMethod yX3_found, Cond.selects RX3 yX3_found yX3_found, Cond.code yX3_found cX3_found 3 (some .int), Cond.fieldLink RX3 39 "BeamSeats" "findings" "[I", Cond.methodLink RX3 148 yX0_goSeconds, Cond.instanceMethod yX0_goSeconds, Cond.selects RX0 yX0_goSeconds yX0_goSeconds, Cond.initialized RX0, Cond.code yX0_goSeconds cX0_goSeconds 5 none, Cond.fieldLink RX0 27 "BeamSeats$Island" "onSet" "I", Cond.fieldLink RX0 18 "BeamSeats$Island" "speed" "I", Cond.fieldLink RX0 15 "BeamSeats$Island" "bearing" "I", Cond.fieldLink RX0 9 "BeamSeats$Island" "second" "I"]
def wsX3_seconds_r2 : List Cond := [Cond.methodLink RX0 80 yX0_passBearing, Cond.instanceMethod yX0_passBearing, Cond.selects RX0 yX0_passBearing yX0_passBearing, Cond.code yX0_passBearing cX0_passBearing 4 none, Cond.fieldLink RX0 24 "BeamSeats$Island" "size" "I", Cond.fieldLink RX0 37 "BeamSeats$Island" "places" "[I", Cond.fieldLink RX0 30 "BeamSeats$Island" "lostSet" "I", Cond.methodLink RX0 87 yX0_leaveOrBeLost, Cond.instanceMethod yX0_leaveOrBeLost, Cond.selects RX0 yX0_leaveOrBeLost yX0_leaveOrBeLost, Cond.code yX0_leaveOrBeLost cX0_leaveOrBeLost 2 none, Cond.methodLink RX0 99 yX0_getsOff, Cond.instanceMethod yX0_getsOff, Cond.selects RX0 yX0_getsOff yX0_getsOff, Cond.code yX0_getsOff cX0_getsOff 2 (some .boolean), Cond.fieldLink RX0 33 "BeamSeats$Island" "kinds" "[I", Cond.fieldLink RX0 43 "BeamSeats$Island" "wets" "[I", Cond.fieldLink RX0 46 "BeamSeats$Island" "goals" "[I", Cond.methodLink RX0 102 yX0_goOff, Cond.instanceMethod yX0_goOff, Cond.selects RX0 yX0_goOff yX0_goOff, Cond.code yX0_goOff cX0_goOff 2 none, Cond.methodLink RX0 90 yX0_getsOn, Cond.instanceMethod yX0_getsOn]
def wsX3_seconds_r3 : List Cond := [Cond.selects RX0 yX0_getsOn yX0_getsOn, Cond.code yX0_getsOn cX0_getsOn 2 (some .boolean), Cond.methodLink RX0 72 yJ6_bitCount_0f7a4, Cond.static yJ6_bitCount_0f7a4, Cond.initialized RJ6, Cond.code yJ6_bitCount_0f7a4 cJ6_bitCount_0f7a4 1 (some .int), Cond.constant RJ6 265 (1431655765), Cond.constant RJ6 266 (858993459), Cond.constant RJ6 267 (252645135), Cond.methodLink RX0 93 yX0_isBorne, Cond.instanceMethod yX0_isBorne, Cond.selects RX0 yX0_isBorne yX0_isBorne, Cond.code yX0_isBorne cX0_isBorne 2 (some .boolean), Cond.fieldLink RX0 40 "BeamSeats$Island" "outs" "[I", Cond.methodLink RX0 66 yX0_weightAt, Cond.instanceMethod yX0_weightAt, Cond.selects RX0 yX0_weightAt yX0_weightAt, Cond.code yX0_weightAt cX0_weightAt 4 (some .int), Cond.methodLink RX0 52 yX0_isOn, Cond.instanceMethod yX0_isOn, Cond.selects RX0 yX0_isOn yX0_isOn, Cond.code yX0_isOn cX0_isOn 2 (some .boolean), Cond.methodLink RX0 56 yX0_weightOf, Cond.instanceMethod yX0_weightOf]
def wsX3_seconds_r4 : List Cond := [Cond.selects RX0 yX0_weightOf yX0_weightOf, Cond.code yX0_weightOf cX0_weightOf 3 (some .int), Cond.methodLink RX0 69 yX0_bears, Cond.instanceMethod yX0_bears, Cond.selects RX0 yX0_bears yX0_bears, Cond.code yX0_bears cX0_bears 2 (some .int), Cond.fieldLink RX0 21 "BeamSeats$Island" "thick" "I", Cond.methodLink RX0 60 Lib.Math.max.name, Cond.static Lib.Math.max.name, Cond.initialized "java/lang/Math", Cond.code Lib.Math.max.name Lib.Math.max.code 2 (some .int), Cond.methodLink RX0 96 yX0_comeOn, Cond.instanceMethod yX0_comeOn, Cond.selects RX0 yX0_comeOn yX0_comeOn, Cond.code yX0_comeOn cX0_comeOn 2 none, Cond.fieldLink RX0 49 "BeamSeats$Island" "times" "[I", Cond.methodLink RX0 77 Lib.Math.min.name, Cond.static Lib.Math.min.name, Cond.code Lib.Math.min.name Lib.Math.min.code 2 (some .int), Cond.methodLink RX0 84 yX0_dryAndRide, Cond.instanceMethod yX0_dryAndRide, Cond.selects RX0 yX0_dryAndRide yX0_dryAndRide, Cond.code yX0_dryAndRide cX0_dryAndRide 2 none, Cond.methodLink RX0 105 yX0_dries]
def wsX3_seconds_r5 : List Cond := [Cond.instanceMethod yX0_dries, Cond.selects RX0 yX0_dries yX0_dries, Cond.code yX0_dries cX0_dries 3 (some .int)]
def wsX3_seconds : List Cond := .code yX3_seconds cX3_seconds 2 (some .int) :: ((wsX3_seconds_r1 ++ (wsX3_seconds_r2 ++ (wsX3_seconds_r3 ++ (wsX3_seconds_r4 ++ wsX3_seconds_r5)))) ++ wsX30 ++ wsX00)
def wsX3_on_r1 : List Cond := [Cond.fieldLink RX3 10 "BeamSeats" "real" "LBeamSeats$Island;", Cond.constant RX3 58 (-1000000001), Cond.fieldLink RX3 16 "BeamSeats" "trial" "LBeamSeats$Island;", Cond.fieldLink RX3 97 "BeamSeats$Island" "places" "[I", Cond.fieldLink RX3 106 "BeamSeats$Island" "wets" "[I", Cond.fieldLink RX3 115 "BeamSeats$Island" "times" "[I", Cond.methodLink RX3 90 yX0_has, Cond.instanceMethod yX0_has, Cond.selects RX0 yX0_has yX0_has, Cond.initialized RX0, Cond.code yX0_has cX0_has 2 (some .boolean), Cond.fieldLink RX0 24 "BeamSeats$Island" "size" "I", Cond.methodLink RX3 44 yX3_within, Cond.static yX3_within, Cond.initialized RX3, Cond.code yX3_within cX3_within 3 (some .boolean), Cond.methodLink RX3 59 yX3_found, Cond.instanceMethod yX3_found, Cond.selects RX3 yX3_found yX3_found, Cond.code yX3_found cX3_found 3 (some .int), Cond.fieldLink RX3 39 "BeamSeats" "findings" "[I", Cond.methodLink RX3 151 yX0_becomes, Cond.instanceMethod yX0_becomes, Cond.selects RX0 yX0_becomes yX0_becomes]
def wsX3_on_r2 : List Cond := [Cond.code yX0_becomes cX0_becomes 3 none, Cond.fieldLink RX0 9 "BeamSeats$Island" "second" "I", Cond.fieldLink RX0 15 "BeamSeats$Island" "bearing" "I", Cond.fieldLink RX0 18 "BeamSeats$Island" "speed" "I", Cond.fieldLink RX0 21 "BeamSeats$Island" "thick" "I", Cond.fieldLink RX0 27 "BeamSeats$Island" "onSet" "I", Cond.fieldLink RX0 30 "BeamSeats$Island" "lostSet" "I", Cond.fieldLink RX0 33 "BeamSeats$Island" "kinds" "[I", Cond.fieldLink RX0 37 "BeamSeats$Island" "places" "[I", Cond.fieldLink RX0 40 "BeamSeats$Island" "outs" "[I", Cond.fieldLink RX0 43 "BeamSeats$Island" "wets" "[I", Cond.fieldLink RX0 46 "BeamSeats$Island" "goals" "[I", Cond.fieldLink RX0 49 "BeamSeats$Island" "times" "[I", Cond.methodLink RX3 148 yX0_goSeconds, Cond.instanceMethod yX0_goSeconds, Cond.selects RX0 yX0_goSeconds yX0_goSeconds, Cond.code yX0_goSeconds cX0_goSeconds 5 none, Cond.methodLink RX0 80 yX0_passBearing, Cond.instanceMethod yX0_passBearing, Cond.selects RX0 yX0_passBearing yX0_passBearing, Cond.code yX0_passBearing cX0_passBearing 4 none, Cond.methodLink RX0 87 yX0_leaveOrBeLost, Cond.instanceMethod yX0_leaveOrBeLost, Cond.selects RX0 yX0_leaveOrBeLost yX0_leaveOrBeLost]
def wsX3_on_r3 : List Cond := [Cond.code yX0_leaveOrBeLost cX0_leaveOrBeLost 2 none, Cond.methodLink RX0 99 yX0_getsOff, Cond.instanceMethod yX0_getsOff, Cond.selects RX0 yX0_getsOff yX0_getsOff, Cond.code yX0_getsOff cX0_getsOff 2 (some .boolean), Cond.methodLink RX0 102 yX0_goOff, Cond.instanceMethod yX0_goOff, Cond.selects RX0 yX0_goOff yX0_goOff, Cond.code yX0_goOff cX0_goOff 2 none, Cond.methodLink RX0 90 yX0_getsOn, Cond.instanceMethod yX0_getsOn, Cond.selects RX0 yX0_getsOn yX0_getsOn, Cond.code yX0_getsOn cX0_getsOn 2 (some .boolean), Cond.methodLink RX0 72 yJ6_bitCount_0f7a4, Cond.static yJ6_bitCount_0f7a4, Cond.initialized RJ6, Cond.code yJ6_bitCount_0f7a4 cJ6_bitCount_0f7a4 1 (some .int), Cond.constant RJ6 265 (1431655765), Cond.constant RJ6 266 (858993459), Cond.constant RJ6 267 (252645135), Cond.methodLink RX0 93 yX0_isBorne, Cond.instanceMethod yX0_isBorne, Cond.selects RX0 yX0_isBorne yX0_isBorne, Cond.code yX0_isBorne cX0_isBorne 2 (some .boolean)]
def wsX3_on_r4 : List Cond := [Cond.methodLink RX0 66 yX0_weightAt, Cond.instanceMethod yX0_weightAt, Cond.selects RX0 yX0_weightAt yX0_weightAt, Cond.code yX0_weightAt cX0_weightAt 4 (some .int), Cond.methodLink RX0 52 yX0_isOn, Cond.instanceMethod yX0_isOn, Cond.selects RX0 yX0_isOn yX0_isOn, Cond.code yX0_isOn cX0_isOn 2 (some .boolean), Cond.methodLink RX0 56 yX0_weightOf, Cond.instanceMethod yX0_weightOf, Cond.selects RX0 yX0_weightOf yX0_weightOf, Cond.code yX0_weightOf cX0_weightOf 3 (some .int), Cond.methodLink RX0 69 yX0_bears, Cond.instanceMethod yX0_bears, Cond.selects RX0 yX0_bears yX0_bears, Cond.code yX0_bears cX0_bears 2 (some .int), Cond.methodLink RX0 60 Lib.Math.max.name, Cond.static Lib.Math.max.name, Cond.initialized "java/lang/Math", Cond.code Lib.Math.max.name Lib.Math.max.code 2 (some .int), Cond.methodLink RX0 96 yX0_comeOn, Cond.instanceMethod yX0_comeOn, Cond.selects RX0 yX0_comeOn yX0_comeOn, Cond.code yX0_comeOn cX0_comeOn 2 none]
def wsX3_on_r5 : List Cond := [Cond.methodLink RX0 77 Lib.Math.min.name, Cond.static Lib.Math.min.name, Cond.code Lib.Math.min.name Lib.Math.min.code 2 (some .int), Cond.methodLink RX0 84 yX0_dryAndRide, Cond.instanceMethod yX0_dryAndRide, Cond.selects RX0 yX0_dryAndRide yX0_dryAndRide, Cond.code yX0_dryAndRide cX0_dryAndRide 2 none, Cond.methodLink RX0 105 yX0_dries, Cond.instanceMethod yX0_dries, Cond.selects RX0 yX0_dries yX0_dries, Cond.code yX0_dries cX0_dries 3 (some .int), Cond.methodLink RX3 103 yX0_isOn, Cond.methodLink RX3 112 yX0_isLost, Cond.instanceMethod yX0_isLost, Cond.selects RX0 yX0_isLost yX0_isLost, Cond.code yX0_isLost cX0_isLost 2 (some .boolean)]
def wsX3_on : List Cond := .code yX3_on cX3_on 4 (some .int) :: ((wsX3_on_r1 ++ (wsX3_on_r2 ++ (wsX3_on_r3 ++ (wsX3_on_r4 ++ wsX3_on_r5)))) ++ wsX30 ++ wsX00)
def wsX3_then_r1 : List Cond := [Cond.constant RX3 58 (-1000000001), Cond.fieldLink RX3 16 "BeamSeats" "trial" "LBeamSeats$Island;", Cond.fieldLink RX3 10 "BeamSeats" "real" "LBeamSeats$Island;", Cond.fieldLink RX3 66 "BeamSeats$Island" "onSet" "I", Cond.fieldLink RX3 69 "BeamSeats$Island" "lostSet" "I", Cond.methodLink RX3 44 yX3_within, Cond.static yX3_within, Cond.initialized RX3, Cond.code yX3_within cX3_within 3 (some .boolean), Cond.methodLink RX3 59 yX3_found, Cond.instanceMethod yX3_found, Cond.selects RX3 yX3_found yX3_found, Cond.code yX3_found cX3_found 3 (some .int), Cond.fieldLink RX3 39 "BeamSeats" "findings" "[I", Cond.methodLink RX3 151 yX0_becomes, Cond.instanceMethod yX0_becomes, Cond.selects RX0 yX0_becomes yX0_becomes, Cond.initialized RX0, Cond.code yX0_becomes cX0_becomes 3 none, Cond.fieldLink RX0 9 "BeamSeats$Island" "second" "I", Cond.fieldLink RX0 15 "BeamSeats$Island" "bearing" "I", Cond.fieldLink RX0 18 "BeamSeats$Island" "speed" "I", Cond.fieldLink RX0 21 "BeamSeats$Island" "thick" "I", Cond.fieldLink RX0 24 "BeamSeats$Island" "size" "I"]
def wsX3_then_r2 : List Cond := [Cond.fieldLink RX0 27 "BeamSeats$Island" "onSet" "I", Cond.fieldLink RX0 30 "BeamSeats$Island" "lostSet" "I", Cond.fieldLink RX0 33 "BeamSeats$Island" "kinds" "[I", Cond.fieldLink RX0 37 "BeamSeats$Island" "places" "[I", Cond.fieldLink RX0 40 "BeamSeats$Island" "outs" "[I", Cond.fieldLink RX0 43 "BeamSeats$Island" "wets" "[I", Cond.fieldLink RX0 46 "BeamSeats$Island" "goals" "[I", Cond.fieldLink RX0 49 "BeamSeats$Island" "times" "[I", Cond.methodLink RX3 148 yX0_goSeconds, Cond.instanceMethod yX0_goSeconds, Cond.selects RX0 yX0_goSeconds yX0_goSeconds, Cond.code yX0_goSeconds cX0_goSeconds 5 none, Cond.methodLink RX0 80 yX0_passBearing, Cond.instanceMethod yX0_passBearing, Cond.selects RX0 yX0_passBearing yX0_passBearing, Cond.code yX0_passBearing cX0_passBearing 4 none, Cond.methodLink RX0 87 yX0_leaveOrBeLost, Cond.instanceMethod yX0_leaveOrBeLost, Cond.selects RX0 yX0_leaveOrBeLost yX0_leaveOrBeLost, Cond.code yX0_leaveOrBeLost cX0_leaveOrBeLost 2 none, Cond.methodLink RX0 99 yX0_getsOff, Cond.instanceMethod yX0_getsOff, Cond.selects RX0 yX0_getsOff yX0_getsOff, Cond.code yX0_getsOff cX0_getsOff 2 (some .boolean)]
def wsX3_then_r3 : List Cond := [Cond.methodLink RX0 102 yX0_goOff, Cond.instanceMethod yX0_goOff, Cond.selects RX0 yX0_goOff yX0_goOff, Cond.code yX0_goOff cX0_goOff 2 none, Cond.methodLink RX0 90 yX0_getsOn, Cond.instanceMethod yX0_getsOn, Cond.selects RX0 yX0_getsOn yX0_getsOn, Cond.code yX0_getsOn cX0_getsOn 2 (some .boolean), Cond.methodLink RX0 72 yJ6_bitCount_0f7a4, Cond.static yJ6_bitCount_0f7a4, Cond.initialized RJ6, Cond.code yJ6_bitCount_0f7a4 cJ6_bitCount_0f7a4 1 (some .int), Cond.constant RJ6 265 (1431655765), Cond.constant RJ6 266 (858993459), Cond.constant RJ6 267 (252645135), Cond.methodLink RX0 93 yX0_isBorne, Cond.instanceMethod yX0_isBorne, Cond.selects RX0 yX0_isBorne yX0_isBorne, Cond.code yX0_isBorne cX0_isBorne 2 (some .boolean), Cond.methodLink RX0 66 yX0_weightAt, Cond.instanceMethod yX0_weightAt, Cond.selects RX0 yX0_weightAt yX0_weightAt, Cond.code yX0_weightAt cX0_weightAt 4 (some .int), Cond.methodLink RX0 52 yX0_isOn]
def wsX3_then_r4 : List Cond := [Cond.instanceMethod yX0_isOn, Cond.selects RX0 yX0_isOn yX0_isOn, Cond.code yX0_isOn cX0_isOn 2 (some .boolean), Cond.methodLink RX0 56 yX0_weightOf, Cond.instanceMethod yX0_weightOf, Cond.selects RX0 yX0_weightOf yX0_weightOf, Cond.code yX0_weightOf cX0_weightOf 3 (some .int), Cond.methodLink RX0 69 yX0_bears, Cond.instanceMethod yX0_bears, Cond.selects RX0 yX0_bears yX0_bears, Cond.code yX0_bears cX0_bears 2 (some .int), Cond.methodLink RX0 60 Lib.Math.max.name, Cond.static Lib.Math.max.name, Cond.initialized "java/lang/Math", Cond.code Lib.Math.max.name Lib.Math.max.code 2 (some .int), Cond.methodLink RX0 96 yX0_comeOn, Cond.instanceMethod yX0_comeOn, Cond.selects RX0 yX0_comeOn yX0_comeOn, Cond.code yX0_comeOn cX0_comeOn 2 none, Cond.methodLink RX0 77 Lib.Math.min.name, Cond.static Lib.Math.min.name, Cond.code Lib.Math.min.name Lib.Math.min.code 2 (some .int), Cond.methodLink RX0 84 yX0_dryAndRide, Cond.instanceMethod yX0_dryAndRide]
def wsX3_then_r5 : List Cond := [Cond.selects RX0 yX0_dryAndRide yX0_dryAndRide, Cond.code yX0_dryAndRide cX0_dryAndRide 2 none, Cond.methodLink RX0 105 yX0_dries, Cond.instanceMethod yX0_dries, Cond.selects RX0 yX0_dries yX0_dries, Cond.code yX0_dries cX0_dries 3 (some .int), Cond.methodLink RX3 155 yJ6_bitCount_0f7a4]
def wsX3_then : List Cond := .code yX3_then cX3_then 3 (some .int) :: ((wsX3_then_r1 ++ (wsX3_then_r2 ++ (wsX3_then_r3 ++ (wsX3_then_r4 ++ wsX3_then_r5)))) ++ wsX30 ++ wsX00)
def wsX3_secondsUntil_r1 : List Cond := [Cond.fieldLink RX3 16 "BeamSeats" "trial" "LBeamSeats$Island;", Cond.constant RX3 167 (-1000000004), Cond.methodLink RX3 223 yX0_isSo, Cond.instanceMethod yX0_isSo, Cond.selects RX0 yX0_isSo yX0_isSo, Cond.initialized RX0, Cond.code yX0_isSo cX0_isSo 3 (some .boolean), Cond.fieldLink RX0 43 "BeamSeats$Island" "wets" "[I", Cond.fieldLink RX0 37 "BeamSeats$Island" "places" "[I", Cond.fieldLink RX0 46 "BeamSeats$Island" "goals" "[I", Cond.methodLink RX0 52 yX0_isOn, Cond.instanceMethod yX0_isOn, Cond.selects RX0 yX0_isOn yX0_isOn, Cond.code yX0_isOn cX0_isOn 2 (some .boolean), Cond.fieldLink RX0 27 "BeamSeats$Island" "onSet" "I", Cond.methodLink RX0 108 yX0_isLost, Cond.instanceMethod yX0_isLost, Cond.selects RX0 yX0_isLost yX0_isLost, Cond.code yX0_isLost cX0_isLost 2 (some .boolean), Cond.fieldLink RX0 30 "BeamSeats$Island" "lostSet" "I", Cond.methodLink RX3 148 yX0_goSeconds, Cond.instanceMethod yX0_goSeconds, Cond.selects RX0 yX0_goSeconds yX0_goSeconds, Cond.code yX0_goSeconds cX0_goSeconds 5 none]
def wsX3_secondsUntil_r2 : List Cond := [Cond.fieldLink RX0 18 "BeamSeats$Island" "speed" "I", Cond.fieldLink RX0 15 "BeamSeats$Island" "bearing" "I", Cond.fieldLink RX0 9 "BeamSeats$Island" "second" "I", Cond.methodLink RX0 80 yX0_passBearing, Cond.instanceMethod yX0_passBearing, Cond.selects RX0 yX0_passBearing yX0_passBearing, Cond.code yX0_passBearing cX0_passBearing 4 none, Cond.fieldLink RX0 24 "BeamSeats$Island" "size" "I", Cond.methodLink RX0 87 yX0_leaveOrBeLost, Cond.instanceMethod yX0_leaveOrBeLost, Cond.selects RX0 yX0_leaveOrBeLost yX0_leaveOrBeLost, Cond.code yX0_leaveOrBeLost cX0_leaveOrBeLost 2 none, Cond.methodLink RX0 99 yX0_getsOff, Cond.instanceMethod yX0_getsOff, Cond.selects RX0 yX0_getsOff yX0_getsOff, Cond.code yX0_getsOff cX0_getsOff 2 (some .boolean), Cond.fieldLink RX0 33 "BeamSeats$Island" "kinds" "[I", Cond.methodLink RX0 102 yX0_goOff, Cond.instanceMethod yX0_goOff, Cond.selects RX0 yX0_goOff yX0_goOff, Cond.code yX0_goOff cX0_goOff 2 none, Cond.methodLink RX0 90 yX0_getsOn, Cond.instanceMethod yX0_getsOn, Cond.selects RX0 yX0_getsOn yX0_getsOn]
def wsX3_secondsUntil_r3 : List Cond := [Cond.code yX0_getsOn cX0_getsOn 2 (some .boolean), Cond.methodLink RX0 72 yJ6_bitCount_0f7a4, Cond.static yJ6_bitCount_0f7a4, Cond.initialized RJ6, Cond.code yJ6_bitCount_0f7a4 cJ6_bitCount_0f7a4 1 (some .int), Cond.constant RJ6 265 (1431655765), Cond.constant RJ6 266 (858993459), Cond.constant RJ6 267 (252645135), Cond.methodLink RX0 93 yX0_isBorne, Cond.instanceMethod yX0_isBorne, Cond.selects RX0 yX0_isBorne yX0_isBorne, Cond.code yX0_isBorne cX0_isBorne 2 (some .boolean), Cond.fieldLink RX0 40 "BeamSeats$Island" "outs" "[I", Cond.methodLink RX0 66 yX0_weightAt, Cond.instanceMethod yX0_weightAt, Cond.selects RX0 yX0_weightAt yX0_weightAt, Cond.code yX0_weightAt cX0_weightAt 4 (some .int), Cond.methodLink RX0 56 yX0_weightOf, Cond.instanceMethod yX0_weightOf, Cond.selects RX0 yX0_weightOf yX0_weightOf, Cond.code yX0_weightOf cX0_weightOf 3 (some .int), Cond.methodLink RX0 69 yX0_bears, Cond.instanceMethod yX0_bears, Cond.selects RX0 yX0_bears yX0_bears]
def wsX3_secondsUntil_r4 : List Cond := [Cond.code yX0_bears cX0_bears 2 (some .int), Cond.fieldLink RX0 21 "BeamSeats$Island" "thick" "I", Cond.methodLink RX0 60 Lib.Math.max.name, Cond.static Lib.Math.max.name, Cond.initialized "java/lang/Math", Cond.code Lib.Math.max.name Lib.Math.max.code 2 (some .int), Cond.methodLink RX0 96 yX0_comeOn, Cond.instanceMethod yX0_comeOn, Cond.selects RX0 yX0_comeOn yX0_comeOn, Cond.code yX0_comeOn cX0_comeOn 2 none, Cond.fieldLink RX0 49 "BeamSeats$Island" "times" "[I", Cond.methodLink RX0 77 Lib.Math.min.name, Cond.static Lib.Math.min.name, Cond.code Lib.Math.min.name Lib.Math.min.code 2 (some .int), Cond.methodLink RX0 84 yX0_dryAndRide, Cond.instanceMethod yX0_dryAndRide, Cond.selects RX0 yX0_dryAndRide yX0_dryAndRide, Cond.code yX0_dryAndRide cX0_dryAndRide 2 none, Cond.methodLink RX0 105 yX0_dries, Cond.instanceMethod yX0_dries, Cond.selects RX0 yX0_dries yX0_dries, Cond.code yX0_dries cX0_dries 3 (some .int)]
def wsX3_secondsUntil : List Cond := .code yX3_secondsUntil cX3_secondsUntil 5 (some .int) :: ((wsX3_secondsUntil_r1 ++ (wsX3_secondsUntil_r2 ++ (wsX3_secondsUntil_r3 ++ wsX3_secondsUntil_r4))) ++ wsX30 ++ wsX00)
def wsX3_orNone : List Cond := .code yX3_orNone cX3_orNone 2 (some .int) :: ([.constant RX3 167 (-1000000004), .methodLink RX3 59 yX3_found, .instanceMethod yX3_found, .selects RX3 yX3_found yX3_found, .initialized RX3, .code yX3_found cX3_found 3 (some .int), .constant RX3 58 (-1000000001), .fieldLink RX3 39 "BeamSeats" "findings" "[I", .methodLink RX3 44 yX3_within, .static yX3_within, .code yX3_within cX3_within 3 (some .boolean)] ++ wsX30)
def wsX3_gets_r1 : List Cond := [Cond.fieldLink RX3 10 "BeamSeats" "real" "LBeamSeats$Island;", Cond.constant RX3 58 (-1000000001), Cond.fieldLink RX3 16 "BeamSeats" "trial" "LBeamSeats$Island;", Cond.methodLink RX3 90 yX0_has, Cond.instanceMethod yX0_has, Cond.selects RX0 yX0_has yX0_has, Cond.initialized RX0, Cond.code yX0_has cX0_has 2 (some .boolean), Cond.fieldLink RX0 24 "BeamSeats$Island" "size" "I", Cond.methodLink RX3 59 yX3_found, Cond.instanceMethod yX3_found, Cond.selects RX3 yX3_found yX3_found, Cond.initialized RX3, Cond.code yX3_found cX3_found 3 (some .int), Cond.fieldLink RX3 39 "BeamSeats" "findings" "[I", Cond.methodLink RX3 44 yX3_within, Cond.static yX3_within, Cond.code yX3_within cX3_within 3 (some .boolean), Cond.methodLink RX3 151 yX0_becomes, Cond.instanceMethod yX0_becomes, Cond.selects RX0 yX0_becomes yX0_becomes, Cond.code yX0_becomes cX0_becomes 3 none, Cond.fieldLink RX0 9 "BeamSeats$Island" "second" "I", Cond.fieldLink RX0 15 "BeamSeats$Island" "bearing" "I"]
def wsX3_gets_r2 : List Cond := [Cond.fieldLink RX0 18 "BeamSeats$Island" "speed" "I", Cond.fieldLink RX0 21 "BeamSeats$Island" "thick" "I", Cond.fieldLink RX0 27 "BeamSeats$Island" "onSet" "I", Cond.fieldLink RX0 30 "BeamSeats$Island" "lostSet" "I", Cond.fieldLink RX0 33 "BeamSeats$Island" "kinds" "[I", Cond.fieldLink RX0 37 "BeamSeats$Island" "places" "[I", Cond.fieldLink RX0 40 "BeamSeats$Island" "outs" "[I", Cond.fieldLink RX0 43 "BeamSeats$Island" "wets" "[I", Cond.fieldLink RX0 46 "BeamSeats$Island" "goals" "[I", Cond.fieldLink RX0 49 "BeamSeats$Island" "times" "[I", Cond.methodLink RX3 160 yX3_secondsUntil, Cond.instanceMethod yX3_secondsUntil, Cond.selects RX3 yX3_secondsUntil yX3_secondsUntil, Cond.code yX3_secondsUntil cX3_secondsUntil 5 (some .int), Cond.constant RX3 167 (-1000000004), Cond.methodLink RX3 223 yX0_isSo, Cond.instanceMethod yX0_isSo, Cond.selects RX0 yX0_isSo yX0_isSo, Cond.code yX0_isSo cX0_isSo 3 (some .boolean), Cond.methodLink RX0 52 yX0_isOn, Cond.instanceMethod yX0_isOn, Cond.selects RX0 yX0_isOn yX0_isOn, Cond.code yX0_isOn cX0_isOn 2 (some .boolean), Cond.methodLink RX0 108 yX0_isLost]
def wsX3_gets_r3 : List Cond := [Cond.instanceMethod yX0_isLost, Cond.selects RX0 yX0_isLost yX0_isLost, Cond.code yX0_isLost cX0_isLost 2 (some .boolean), Cond.methodLink RX3 148 yX0_goSeconds, Cond.instanceMethod yX0_goSeconds, Cond.selects RX0 yX0_goSeconds yX0_goSeconds, Cond.code yX0_goSeconds cX0_goSeconds 5 none, Cond.methodLink RX0 80 yX0_passBearing, Cond.instanceMethod yX0_passBearing, Cond.selects RX0 yX0_passBearing yX0_passBearing, Cond.code yX0_passBearing cX0_passBearing 4 none, Cond.methodLink RX0 87 yX0_leaveOrBeLost, Cond.instanceMethod yX0_leaveOrBeLost, Cond.selects RX0 yX0_leaveOrBeLost yX0_leaveOrBeLost, Cond.code yX0_leaveOrBeLost cX0_leaveOrBeLost 2 none, Cond.methodLink RX0 99 yX0_getsOff, Cond.instanceMethod yX0_getsOff, Cond.selects RX0 yX0_getsOff yX0_getsOff, Cond.code yX0_getsOff cX0_getsOff 2 (some .boolean), Cond.methodLink RX0 102 yX0_goOff, Cond.instanceMethod yX0_goOff, Cond.selects RX0 yX0_goOff yX0_goOff, Cond.code yX0_goOff cX0_goOff 2 none, Cond.methodLink RX0 90 yX0_getsOn]
def wsX3_gets_r4 : List Cond := [Cond.instanceMethod yX0_getsOn, Cond.selects RX0 yX0_getsOn yX0_getsOn, Cond.code yX0_getsOn cX0_getsOn 2 (some .boolean), Cond.methodLink RX0 72 yJ6_bitCount_0f7a4, Cond.static yJ6_bitCount_0f7a4, Cond.initialized RJ6, Cond.code yJ6_bitCount_0f7a4 cJ6_bitCount_0f7a4 1 (some .int), Cond.constant RJ6 265 (1431655765), Cond.constant RJ6 266 (858993459), Cond.constant RJ6 267 (252645135), Cond.methodLink RX0 93 yX0_isBorne, Cond.instanceMethod yX0_isBorne, Cond.selects RX0 yX0_isBorne yX0_isBorne, Cond.code yX0_isBorne cX0_isBorne 2 (some .boolean), Cond.methodLink RX0 66 yX0_weightAt, Cond.instanceMethod yX0_weightAt, Cond.selects RX0 yX0_weightAt yX0_weightAt, Cond.code yX0_weightAt cX0_weightAt 4 (some .int), Cond.methodLink RX0 56 yX0_weightOf, Cond.instanceMethod yX0_weightOf, Cond.selects RX0 yX0_weightOf yX0_weightOf, Cond.code yX0_weightOf cX0_weightOf 3 (some .int), Cond.methodLink RX0 69 yX0_bears, Cond.instanceMethod yX0_bears]
def wsX3_gets_r5 : List Cond := [Cond.selects RX0 yX0_bears yX0_bears, Cond.code yX0_bears cX0_bears 2 (some .int), Cond.methodLink RX0 60 Lib.Math.max.name, Cond.static Lib.Math.max.name, Cond.initialized "java/lang/Math", Cond.code Lib.Math.max.name Lib.Math.max.code 2 (some .int), Cond.methodLink RX0 96 yX0_comeOn, Cond.instanceMethod yX0_comeOn, Cond.selects RX0 yX0_comeOn yX0_comeOn, Cond.code yX0_comeOn cX0_comeOn 2 none, Cond.methodLink RX0 77 Lib.Math.min.name, Cond.static Lib.Math.min.name, Cond.code Lib.Math.min.name Lib.Math.min.code 2 (some .int), Cond.methodLink RX0 84 yX0_dryAndRide, Cond.instanceMethod yX0_dryAndRide, Cond.selects RX0 yX0_dryAndRide yX0_dryAndRide, Cond.code yX0_dryAndRide cX0_dryAndRide 2 none, Cond.methodLink RX0 105 yX0_dries, Cond.instanceMethod yX0_dries, Cond.selects RX0 yX0_dries yX0_dries, Cond.code yX0_dries cX0_dries 3 (some .int), Cond.methodLink RX3 164 yX3_orNone, Cond.instanceMethod yX3_orNone, Cond.selects RX3 yX3_orNone yX3_orNone]
def wsX3_gets_r6 : List Cond := [Cond.code yX3_orNone cX3_orNone 2 (some .int)]
def wsX3_gets : List Cond := .code yX3_gets cX3_gets 2 (some .int) :: ((wsX3_gets_r1 ++ (wsX3_gets_r2 ++ (wsX3_gets_r3 ++ (wsX3_gets_r4 ++ (wsX3_gets_r5 ++ wsX3_gets_r6))))) ++ wsX30 ++ wsX00)
def wsX3_dry_r1 : List Cond := [Cond.fieldLink RX3 10 "BeamSeats" "real" "LBeamSeats$Island;", Cond.constant RX3 58 (-1000000001), Cond.fieldLink RX3 16 "BeamSeats" "trial" "LBeamSeats$Island;", Cond.methodLink RX3 90 yX0_has, Cond.instanceMethod yX0_has, Cond.selects RX0 yX0_has yX0_has, Cond.initialized RX0, Cond.code yX0_has cX0_has 2 (some .boolean), Cond.fieldLink RX0 24 "BeamSeats$Island" "size" "I", Cond.methodLink RX3 59 yX3_found, Cond.instanceMethod yX3_found, Cond.selects RX3 yX3_found yX3_found, Cond.initialized RX3, Cond.code yX3_found cX3_found 3 (some .int), Cond.fieldLink RX3 39 "BeamSeats" "findings" "[I", Cond.methodLink RX3 44 yX3_within, Cond.static yX3_within, Cond.code yX3_within cX3_within 3 (some .boolean), Cond.methodLink RX3 151 yX0_becomes, Cond.instanceMethod yX0_becomes, Cond.selects RX0 yX0_becomes yX0_becomes, Cond.code yX0_becomes cX0_becomes 3 none, Cond.fieldLink RX0 9 "BeamSeats$Island" "second" "I", Cond.fieldLink RX0 15 "BeamSeats$Island" "bearing" "I"]
def wsX3_dry_r2 : List Cond := [Cond.fieldLink RX0 18 "BeamSeats$Island" "speed" "I", Cond.fieldLink RX0 21 "BeamSeats$Island" "thick" "I", Cond.fieldLink RX0 27 "BeamSeats$Island" "onSet" "I", Cond.fieldLink RX0 30 "BeamSeats$Island" "lostSet" "I", Cond.fieldLink RX0 33 "BeamSeats$Island" "kinds" "[I", Cond.fieldLink RX0 37 "BeamSeats$Island" "places" "[I", Cond.fieldLink RX0 40 "BeamSeats$Island" "outs" "[I", Cond.fieldLink RX0 43 "BeamSeats$Island" "wets" "[I", Cond.fieldLink RX0 46 "BeamSeats$Island" "goals" "[I", Cond.fieldLink RX0 49 "BeamSeats$Island" "times" "[I", Cond.methodLink RX3 160 yX3_secondsUntil, Cond.instanceMethod yX3_secondsUntil, Cond.selects RX3 yX3_secondsUntil yX3_secondsUntil, Cond.code yX3_secondsUntil cX3_secondsUntil 5 (some .int), Cond.constant RX3 167 (-1000000004), Cond.methodLink RX3 223 yX0_isSo, Cond.instanceMethod yX0_isSo, Cond.selects RX0 yX0_isSo yX0_isSo, Cond.code yX0_isSo cX0_isSo 3 (some .boolean), Cond.methodLink RX0 52 yX0_isOn, Cond.instanceMethod yX0_isOn, Cond.selects RX0 yX0_isOn yX0_isOn, Cond.code yX0_isOn cX0_isOn 2 (some .boolean), Cond.methodLink RX0 108 yX0_isLost]
def wsX3_dry_r3 : List Cond := [Cond.instanceMethod yX0_isLost, Cond.selects RX0 yX0_isLost yX0_isLost, Cond.code yX0_isLost cX0_isLost 2 (some .boolean), Cond.methodLink RX3 148 yX0_goSeconds, Cond.instanceMethod yX0_goSeconds, Cond.selects RX0 yX0_goSeconds yX0_goSeconds, Cond.code yX0_goSeconds cX0_goSeconds 5 none, Cond.methodLink RX0 80 yX0_passBearing, Cond.instanceMethod yX0_passBearing, Cond.selects RX0 yX0_passBearing yX0_passBearing, Cond.code yX0_passBearing cX0_passBearing 4 none, Cond.methodLink RX0 87 yX0_leaveOrBeLost, Cond.instanceMethod yX0_leaveOrBeLost, Cond.selects RX0 yX0_leaveOrBeLost yX0_leaveOrBeLost, Cond.code yX0_leaveOrBeLost cX0_leaveOrBeLost 2 none, Cond.methodLink RX0 99 yX0_getsOff, Cond.instanceMethod yX0_getsOff, Cond.selects RX0 yX0_getsOff yX0_getsOff, Cond.code yX0_getsOff cX0_getsOff 2 (some .boolean), Cond.methodLink RX0 102 yX0_goOff, Cond.instanceMethod yX0_goOff, Cond.selects RX0 yX0_goOff yX0_goOff, Cond.code yX0_goOff cX0_goOff 2 none, Cond.methodLink RX0 90 yX0_getsOn]
def wsX3_dry_r4 : List Cond := [Cond.instanceMethod yX0_getsOn, Cond.selects RX0 yX0_getsOn yX0_getsOn, Cond.code yX0_getsOn cX0_getsOn 2 (some .boolean), Cond.methodLink RX0 72 yJ6_bitCount_0f7a4, Cond.static yJ6_bitCount_0f7a4, Cond.initialized RJ6, Cond.code yJ6_bitCount_0f7a4 cJ6_bitCount_0f7a4 1 (some .int), Cond.constant RJ6 265 (1431655765), Cond.constant RJ6 266 (858993459), Cond.constant RJ6 267 (252645135), Cond.methodLink RX0 93 yX0_isBorne, Cond.instanceMethod yX0_isBorne, Cond.selects RX0 yX0_isBorne yX0_isBorne, Cond.code yX0_isBorne cX0_isBorne 2 (some .boolean), Cond.methodLink RX0 66 yX0_weightAt, Cond.instanceMethod yX0_weightAt, Cond.selects RX0 yX0_weightAt yX0_weightAt, Cond.code yX0_weightAt cX0_weightAt 4 (some .int), Cond.methodLink RX0 56 yX0_weightOf, Cond.instanceMethod yX0_weightOf, Cond.selects RX0 yX0_weightOf yX0_weightOf, Cond.code yX0_weightOf cX0_weightOf 3 (some .int), Cond.methodLink RX0 69 yX0_bears, Cond.instanceMethod yX0_bears]
def wsX3_dry_r5 : List Cond := [Cond.selects RX0 yX0_bears yX0_bears, Cond.code yX0_bears cX0_bears 2 (some .int), Cond.methodLink RX0 60 Lib.Math.max.name, Cond.static Lib.Math.max.name, Cond.initialized "java/lang/Math", Cond.code Lib.Math.max.name Lib.Math.max.code 2 (some .int), Cond.methodLink RX0 96 yX0_comeOn, Cond.instanceMethod yX0_comeOn, Cond.selects RX0 yX0_comeOn yX0_comeOn, Cond.code yX0_comeOn cX0_comeOn 2 none, Cond.methodLink RX0 77 Lib.Math.min.name, Cond.static Lib.Math.min.name, Cond.code Lib.Math.min.name Lib.Math.min.code 2 (some .int), Cond.methodLink RX0 84 yX0_dryAndRide, Cond.instanceMethod yX0_dryAndRide, Cond.selects RX0 yX0_dryAndRide yX0_dryAndRide, Cond.code yX0_dryAndRide cX0_dryAndRide 2 none, Cond.methodLink RX0 105 yX0_dries, Cond.instanceMethod yX0_dries, Cond.selects RX0 yX0_dries yX0_dries, Cond.code yX0_dries cX0_dries 3 (some .int), Cond.methodLink RX3 164 yX3_orNone, Cond.instanceMethod yX3_orNone, Cond.selects RX3 yX3_orNone yX3_orNone]
def wsX3_dry_r6 : List Cond := [Cond.code yX3_orNone cX3_orNone 2 (some .int)]
def wsX3_dry : List Cond := .code yX3_dry cX3_dry 2 (some .int) :: ((wsX3_dry_r1 ++ (wsX3_dry_r2 ++ (wsX3_dry_r3 ++ (wsX3_dry_r4 ++ (wsX3_dry_r5 ++ wsX3_dry_r6))))) ++ wsX30 ++ wsX00)
def wsX3_lost_r1 : List Cond := [Cond.fieldLink RX3 10 "BeamSeats" "real" "LBeamSeats$Island;", Cond.constant RX3 58 (-1000000001), Cond.fieldLink RX3 16 "BeamSeats" "trial" "LBeamSeats$Island;", Cond.methodLink RX3 90 yX0_has, Cond.instanceMethod yX0_has, Cond.selects RX0 yX0_has yX0_has, Cond.initialized RX0, Cond.code yX0_has cX0_has 2 (some .boolean), Cond.fieldLink RX0 24 "BeamSeats$Island" "size" "I", Cond.methodLink RX3 59 yX3_found, Cond.instanceMethod yX3_found, Cond.selects RX3 yX3_found yX3_found, Cond.initialized RX3, Cond.code yX3_found cX3_found 3 (some .int), Cond.fieldLink RX3 39 "BeamSeats" "findings" "[I", Cond.methodLink RX3 44 yX3_within, Cond.static yX3_within, Cond.code yX3_within cX3_within 3 (some .boolean), Cond.methodLink RX3 151 yX0_becomes, Cond.instanceMethod yX0_becomes, Cond.selects RX0 yX0_becomes yX0_becomes, Cond.code yX0_becomes cX0_becomes 3 none, Cond.fieldLink RX0 9 "BeamSeats$Island" "second" "I", Cond.fieldLink RX0 15 "BeamSeats$Island" "bearing" "I"]
def wsX3_lost_r2 : List Cond := [Cond.fieldLink RX0 18 "BeamSeats$Island" "speed" "I", Cond.fieldLink RX0 21 "BeamSeats$Island" "thick" "I", Cond.fieldLink RX0 27 "BeamSeats$Island" "onSet" "I", Cond.fieldLink RX0 30 "BeamSeats$Island" "lostSet" "I", Cond.fieldLink RX0 33 "BeamSeats$Island" "kinds" "[I", Cond.fieldLink RX0 37 "BeamSeats$Island" "places" "[I", Cond.fieldLink RX0 40 "BeamSeats$Island" "outs" "[I", Cond.fieldLink RX0 43 "BeamSeats$Island" "wets" "[I", Cond.fieldLink RX0 46 "BeamSeats$Island" "goals" "[I", Cond.fieldLink RX0 49 "BeamSeats$Island" "times" "[I", Cond.methodLink RX3 160 yX3_secondsUntil, Cond.instanceMethod yX3_secondsUntil, Cond.selects RX3 yX3_secondsUntil yX3_secondsUntil, Cond.code yX3_secondsUntil cX3_secondsUntil 5 (some .int), Cond.constant RX3 167 (-1000000004), Cond.methodLink RX3 223 yX0_isSo, Cond.instanceMethod yX0_isSo, Cond.selects RX0 yX0_isSo yX0_isSo, Cond.code yX0_isSo cX0_isSo 3 (some .boolean), Cond.methodLink RX0 52 yX0_isOn, Cond.instanceMethod yX0_isOn, Cond.selects RX0 yX0_isOn yX0_isOn, Cond.code yX0_isOn cX0_isOn 2 (some .boolean), Cond.methodLink RX0 108 yX0_isLost]
def wsX3_lost_r3 : List Cond := [Cond.instanceMethod yX0_isLost, Cond.selects RX0 yX0_isLost yX0_isLost, Cond.code yX0_isLost cX0_isLost 2 (some .boolean), Cond.methodLink RX3 148 yX0_goSeconds, Cond.instanceMethod yX0_goSeconds, Cond.selects RX0 yX0_goSeconds yX0_goSeconds, Cond.code yX0_goSeconds cX0_goSeconds 5 none, Cond.methodLink RX0 80 yX0_passBearing, Cond.instanceMethod yX0_passBearing, Cond.selects RX0 yX0_passBearing yX0_passBearing, Cond.code yX0_passBearing cX0_passBearing 4 none, Cond.methodLink RX0 87 yX0_leaveOrBeLost, Cond.instanceMethod yX0_leaveOrBeLost, Cond.selects RX0 yX0_leaveOrBeLost yX0_leaveOrBeLost, Cond.code yX0_leaveOrBeLost cX0_leaveOrBeLost 2 none, Cond.methodLink RX0 99 yX0_getsOff, Cond.instanceMethod yX0_getsOff, Cond.selects RX0 yX0_getsOff yX0_getsOff, Cond.code yX0_getsOff cX0_getsOff 2 (some .boolean), Cond.methodLink RX0 102 yX0_goOff, Cond.instanceMethod yX0_goOff, Cond.selects RX0 yX0_goOff yX0_goOff, Cond.code yX0_goOff cX0_goOff 2 none, Cond.methodLink RX0 90 yX0_getsOn]
def wsX3_lost_r4 : List Cond := [Cond.instanceMethod yX0_getsOn, Cond.selects RX0 yX0_getsOn yX0_getsOn, Cond.code yX0_getsOn cX0_getsOn 2 (some .boolean), Cond.methodLink RX0 72 yJ6_bitCount_0f7a4, Cond.static yJ6_bitCount_0f7a4, Cond.initialized RJ6, Cond.code yJ6_bitCount_0f7a4 cJ6_bitCount_0f7a4 1 (some .int), Cond.constant RJ6 265 (1431655765), Cond.constant RJ6 266 (858993459), Cond.constant RJ6 267 (252645135), Cond.methodLink RX0 93 yX0_isBorne, Cond.instanceMethod yX0_isBorne, Cond.selects RX0 yX0_isBorne yX0_isBorne, Cond.code yX0_isBorne cX0_isBorne 2 (some .boolean), Cond.methodLink RX0 66 yX0_weightAt, Cond.instanceMethod yX0_weightAt, Cond.selects RX0 yX0_weightAt yX0_weightAt, Cond.code yX0_weightAt cX0_weightAt 4 (some .int), Cond.methodLink RX0 56 yX0_weightOf, Cond.instanceMethod yX0_weightOf, Cond.selects RX0 yX0_weightOf yX0_weightOf, Cond.code yX0_weightOf cX0_weightOf 3 (some .int), Cond.methodLink RX0 69 yX0_bears, Cond.instanceMethod yX0_bears]
def wsX3_lost_r5 : List Cond := [Cond.selects RX0 yX0_bears yX0_bears, Cond.code yX0_bears cX0_bears 2 (some .int), Cond.methodLink RX0 60 Lib.Math.max.name, Cond.static Lib.Math.max.name, Cond.initialized "java/lang/Math", Cond.code Lib.Math.max.name Lib.Math.max.code 2 (some .int), Cond.methodLink RX0 96 yX0_comeOn, Cond.instanceMethod yX0_comeOn, Cond.selects RX0 yX0_comeOn yX0_comeOn, Cond.code yX0_comeOn cX0_comeOn 2 none, Cond.methodLink RX0 77 Lib.Math.min.name, Cond.static Lib.Math.min.name, Cond.code Lib.Math.min.name Lib.Math.min.code 2 (some .int), Cond.methodLink RX0 84 yX0_dryAndRide, Cond.instanceMethod yX0_dryAndRide, Cond.selects RX0 yX0_dryAndRide yX0_dryAndRide, Cond.code yX0_dryAndRide cX0_dryAndRide 2 none, Cond.methodLink RX0 105 yX0_dries, Cond.instanceMethod yX0_dries, Cond.selects RX0 yX0_dries yX0_dries, Cond.code yX0_dries cX0_dries 3 (some .int), Cond.methodLink RX3 164 yX3_orNone, Cond.instanceMethod yX3_orNone, Cond.selects RX3 yX3_orNone yX3_orNone]
def wsX3_lost_r6 : List Cond := [Cond.code yX3_orNone cX3_orNone 2 (some .int)]
def wsX3_lost : List Cond := .code yX3_lost cX3_lost 2 (some .int) :: ((wsX3_lost_r1 ++ (wsX3_lost_r2 ++ (wsX3_lost_r3 ++ (wsX3_lost_r4 ++ (wsX3_lost_r5 ++ wsX3_lost_r6))))) ++ wsX30 ++ wsX00)
def wsX3_arrives_r1 : List Cond := [Cond.fieldLink RX3 10 "BeamSeats" "real" "LBeamSeats$Island;", Cond.constant RX3 58 (-1000000001), Cond.fieldLink RX3 16 "BeamSeats" "trial" "LBeamSeats$Island;", Cond.methodLink RX3 90 yX0_has, Cond.instanceMethod yX0_has, Cond.selects RX0 yX0_has yX0_has, Cond.initialized RX0, Cond.code yX0_has cX0_has 2 (some .boolean), Cond.fieldLink RX0 24 "BeamSeats$Island" "size" "I", Cond.methodLink RX3 59 yX3_found, Cond.instanceMethod yX3_found, Cond.selects RX3 yX3_found yX3_found, Cond.initialized RX3, Cond.code yX3_found cX3_found 3 (some .int), Cond.fieldLink RX3 39 "BeamSeats" "findings" "[I", Cond.methodLink RX3 44 yX3_within, Cond.static yX3_within, Cond.code yX3_within cX3_within 3 (some .boolean), Cond.methodLink RX3 151 yX0_becomes, Cond.instanceMethod yX0_becomes, Cond.selects RX0 yX0_becomes yX0_becomes, Cond.code yX0_becomes cX0_becomes 3 none, Cond.fieldLink RX0 9 "BeamSeats$Island" "second" "I", Cond.fieldLink RX0 15 "BeamSeats$Island" "bearing" "I"]
def wsX3_arrives_r2 : List Cond := [Cond.fieldLink RX0 18 "BeamSeats$Island" "speed" "I", Cond.fieldLink RX0 21 "BeamSeats$Island" "thick" "I", Cond.fieldLink RX0 27 "BeamSeats$Island" "onSet" "I", Cond.fieldLink RX0 30 "BeamSeats$Island" "lostSet" "I", Cond.fieldLink RX0 33 "BeamSeats$Island" "kinds" "[I", Cond.fieldLink RX0 37 "BeamSeats$Island" "places" "[I", Cond.fieldLink RX0 40 "BeamSeats$Island" "outs" "[I", Cond.fieldLink RX0 43 "BeamSeats$Island" "wets" "[I", Cond.fieldLink RX0 46 "BeamSeats$Island" "goals" "[I", Cond.fieldLink RX0 49 "BeamSeats$Island" "times" "[I", Cond.methodLink RX3 160 yX3_secondsUntil, Cond.instanceMethod yX3_secondsUntil, Cond.selects RX3 yX3_secondsUntil yX3_secondsUntil, Cond.code yX3_secondsUntil cX3_secondsUntil 5 (some .int), Cond.constant RX3 167 (-1000000004), Cond.methodLink RX3 223 yX0_isSo, Cond.instanceMethod yX0_isSo, Cond.selects RX0 yX0_isSo yX0_isSo, Cond.code yX0_isSo cX0_isSo 3 (some .boolean), Cond.methodLink RX0 52 yX0_isOn, Cond.instanceMethod yX0_isOn, Cond.selects RX0 yX0_isOn yX0_isOn, Cond.code yX0_isOn cX0_isOn 2 (some .boolean), Cond.methodLink RX0 108 yX0_isLost]
def wsX3_arrives_r3 : List Cond := [Cond.instanceMethod yX0_isLost, Cond.selects RX0 yX0_isLost yX0_isLost, Cond.code yX0_isLost cX0_isLost 2 (some .boolean), Cond.methodLink RX3 148 yX0_goSeconds, Cond.instanceMethod yX0_goSeconds, Cond.selects RX0 yX0_goSeconds yX0_goSeconds, Cond.code yX0_goSeconds cX0_goSeconds 5 none, Cond.methodLink RX0 80 yX0_passBearing, Cond.instanceMethod yX0_passBearing, Cond.selects RX0 yX0_passBearing yX0_passBearing, Cond.code yX0_passBearing cX0_passBearing 4 none, Cond.methodLink RX0 87 yX0_leaveOrBeLost, Cond.instanceMethod yX0_leaveOrBeLost, Cond.selects RX0 yX0_leaveOrBeLost yX0_leaveOrBeLost, Cond.code yX0_leaveOrBeLost cX0_leaveOrBeLost 2 none, Cond.methodLink RX0 99 yX0_getsOff, Cond.instanceMethod yX0_getsOff, Cond.selects RX0 yX0_getsOff yX0_getsOff, Cond.code yX0_getsOff cX0_getsOff 2 (some .boolean), Cond.methodLink RX0 102 yX0_goOff, Cond.instanceMethod yX0_goOff, Cond.selects RX0 yX0_goOff yX0_goOff, Cond.code yX0_goOff cX0_goOff 2 none, Cond.methodLink RX0 90 yX0_getsOn]
def wsX3_arrives_r4 : List Cond := [Cond.instanceMethod yX0_getsOn, Cond.selects RX0 yX0_getsOn yX0_getsOn, Cond.code yX0_getsOn cX0_getsOn 2 (some .boolean), Cond.methodLink RX0 72 yJ6_bitCount_0f7a4, Cond.static yJ6_bitCount_0f7a4, Cond.initialized RJ6, Cond.code yJ6_bitCount_0f7a4 cJ6_bitCount_0f7a4 1 (some .int), Cond.constant RJ6 265 (1431655765), Cond.constant RJ6 266 (858993459), Cond.constant RJ6 267 (252645135), Cond.methodLink RX0 93 yX0_isBorne, Cond.instanceMethod yX0_isBorne, Cond.selects RX0 yX0_isBorne yX0_isBorne, Cond.code yX0_isBorne cX0_isBorne 2 (some .boolean), Cond.methodLink RX0 66 yX0_weightAt, Cond.instanceMethod yX0_weightAt, Cond.selects RX0 yX0_weightAt yX0_weightAt, Cond.code yX0_weightAt cX0_weightAt 4 (some .int), Cond.methodLink RX0 56 yX0_weightOf, Cond.instanceMethod yX0_weightOf, Cond.selects RX0 yX0_weightOf yX0_weightOf, Cond.code yX0_weightOf cX0_weightOf 3 (some .int), Cond.methodLink RX0 69 yX0_bears, Cond.instanceMethod yX0_bears]
def wsX3_arrives_r5 : List Cond := [Cond.selects RX0 yX0_bears yX0_bears, Cond.code yX0_bears cX0_bears 2 (some .int), Cond.methodLink RX0 60 Lib.Math.max.name, Cond.static Lib.Math.max.name, Cond.initialized "java/lang/Math", Cond.code Lib.Math.max.name Lib.Math.max.code 2 (some .int), Cond.methodLink RX0 96 yX0_comeOn, Cond.instanceMethod yX0_comeOn, Cond.selects RX0 yX0_comeOn yX0_comeOn, Cond.code yX0_comeOn cX0_comeOn 2 none, Cond.methodLink RX0 77 Lib.Math.min.name, Cond.static Lib.Math.min.name, Cond.code Lib.Math.min.name Lib.Math.min.code 2 (some .int), Cond.methodLink RX0 84 yX0_dryAndRide, Cond.instanceMethod yX0_dryAndRide, Cond.selects RX0 yX0_dryAndRide yX0_dryAndRide, Cond.code yX0_dryAndRide cX0_dryAndRide 2 none, Cond.methodLink RX0 105 yX0_dries, Cond.instanceMethod yX0_dries, Cond.selects RX0 yX0_dries yX0_dries, Cond.code yX0_dries cX0_dries 3 (some .int), Cond.methodLink RX3 164 yX3_orNone, Cond.instanceMethod yX3_orNone, Cond.selects RX3 yX3_orNone yX3_orNone]
def wsX3_arrives_r6 : List Cond := [Cond.code yX3_orNone cX3_orNone 2 (some .int)]
def wsX3_arrives : List Cond := .code yX3_arrives cX3_arrives 2 (some .int) :: ((wsX3_arrives_r1 ++ (wsX3_arrives_r2 ++ (wsX3_arrives_r3 ++ (wsX3_arrives_r4 ++ (wsX3_arrives_r5 ++ wsX3_arrives_r6))))) ++ wsX30 ++ wsX00)
def wsX3_speed_r1 : List Cond := [Cond.fieldLink RX3 10 "BeamSeats" "real" "LBeamSeats$Island;", Cond.constant RX3 58 (-1000000001), Cond.fieldLink RX3 16 "BeamSeats" "trial" "LBeamSeats$Island;", Cond.fieldLink RX3 52 "BeamSeats$Island" "speed" "I", Cond.fieldLink RX3 106 "BeamSeats$Island" "wets" "[I", Cond.methodLink RX3 90 yX0_has, Cond.instanceMethod yX0_has, Cond.selects RX0 yX0_has yX0_has, Cond.initialized RX0, Cond.code yX0_has cX0_has 2 (some .boolean), Cond.fieldLink RX0 24 "BeamSeats$Island" "size" "I", Cond.methodLink RX3 44 yX3_within, Cond.static yX3_within, Cond.initialized RX3, Cond.code yX3_within cX3_within 3 (some .boolean), Cond.methodLink RX3 59 yX3_found, Cond.instanceMethod yX3_found, Cond.selects RX3 yX3_found yX3_found, Cond.code yX3_found cX3_found 3 (some .int), Cond.fieldLink RX3 39 "BeamSeats" "findings" "[I", Cond.methodLink RX3 151 yX0_becomes, Cond.instanceMethod yX0_becomes, Cond.selects RX0 yX0_becomes yX0_becomes, Cond.code yX0_becomes cX0_becomes 3 none]
def wsX3_speed_r2 : List Cond := [Cond.fieldLink RX0 9 "BeamSeats$Island" "second" "I", Cond.fieldLink RX0 15 "BeamSeats$Island" "bearing" "I", Cond.fieldLink RX0 18 "BeamSeats$Island" "speed" "I", Cond.fieldLink RX0 21 "BeamSeats$Island" "thick" "I", Cond.fieldLink RX0 27 "BeamSeats$Island" "onSet" "I", Cond.fieldLink RX0 30 "BeamSeats$Island" "lostSet" "I", Cond.fieldLink RX0 33 "BeamSeats$Island" "kinds" "[I", Cond.fieldLink RX0 37 "BeamSeats$Island" "places" "[I", Cond.fieldLink RX0 40 "BeamSeats$Island" "outs" "[I", Cond.fieldLink RX0 43 "BeamSeats$Island" "wets" "[I", Cond.fieldLink RX0 46 "BeamSeats$Island" "goals" "[I", Cond.fieldLink RX0 49 "BeamSeats$Island" "times" "[I", Cond.methodLink RX3 148 yX0_goSeconds, Cond.instanceMethod yX0_goSeconds, Cond.selects RX0 yX0_goSeconds yX0_goSeconds, Cond.code yX0_goSeconds cX0_goSeconds 5 none, Cond.methodLink RX0 80 yX0_passBearing, Cond.instanceMethod yX0_passBearing, Cond.selects RX0 yX0_passBearing yX0_passBearing, Cond.code yX0_passBearing cX0_passBearing 4 none, Cond.methodLink RX0 87 yX0_leaveOrBeLost, Cond.instanceMethod yX0_leaveOrBeLost, Cond.selects RX0 yX0_leaveOrBeLost yX0_leaveOrBeLost, Cond.code yX0_leaveOrBeLost cX0_leaveOrBeLost 2 none]
def wsX3_speed_r3 : List Cond := [Cond.methodLink RX0 99 yX0_getsOff, Cond.instanceMethod yX0_getsOff, Cond.selects RX0 yX0_getsOff yX0_getsOff, Cond.code yX0_getsOff cX0_getsOff 2 (some .boolean), Cond.methodLink RX0 102 yX0_goOff, Cond.instanceMethod yX0_goOff, Cond.selects RX0 yX0_goOff yX0_goOff, Cond.code yX0_goOff cX0_goOff 2 none, Cond.methodLink RX0 90 yX0_getsOn, Cond.instanceMethod yX0_getsOn, Cond.selects RX0 yX0_getsOn yX0_getsOn, Cond.code yX0_getsOn cX0_getsOn 2 (some .boolean), Cond.methodLink RX0 72 yJ6_bitCount_0f7a4, Cond.static yJ6_bitCount_0f7a4, Cond.initialized RJ6, Cond.code yJ6_bitCount_0f7a4 cJ6_bitCount_0f7a4 1 (some .int), Cond.constant RJ6 265 (1431655765), Cond.constant RJ6 266 (858993459), Cond.constant RJ6 267 (252645135), Cond.methodLink RX0 93 yX0_isBorne, Cond.instanceMethod yX0_isBorne, Cond.selects RX0 yX0_isBorne yX0_isBorne, Cond.code yX0_isBorne cX0_isBorne 2 (some .boolean), Cond.methodLink RX0 66 yX0_weightAt]
def wsX3_speed_r4 : List Cond := [Cond.instanceMethod yX0_weightAt, Cond.selects RX0 yX0_weightAt yX0_weightAt, Cond.code yX0_weightAt cX0_weightAt 4 (some .int), Cond.methodLink RX0 52 yX0_isOn, Cond.instanceMethod yX0_isOn, Cond.selects RX0 yX0_isOn yX0_isOn, Cond.code yX0_isOn cX0_isOn 2 (some .boolean), Cond.methodLink RX0 56 yX0_weightOf, Cond.instanceMethod yX0_weightOf, Cond.selects RX0 yX0_weightOf yX0_weightOf, Cond.code yX0_weightOf cX0_weightOf 3 (some .int), Cond.methodLink RX0 69 yX0_bears, Cond.instanceMethod yX0_bears, Cond.selects RX0 yX0_bears yX0_bears, Cond.code yX0_bears cX0_bears 2 (some .int), Cond.methodLink RX0 60 Lib.Math.max.name, Cond.static Lib.Math.max.name, Cond.initialized "java/lang/Math", Cond.code Lib.Math.max.name Lib.Math.max.code 2 (some .int), Cond.methodLink RX0 96 yX0_comeOn, Cond.instanceMethod yX0_comeOn, Cond.selects RX0 yX0_comeOn yX0_comeOn, Cond.code yX0_comeOn cX0_comeOn 2 none, Cond.methodLink RX0 77 Lib.Math.min.name]
def wsX3_speed_r5 : List Cond := [Cond.static Lib.Math.min.name, Cond.code Lib.Math.min.name Lib.Math.min.code 2 (some .int), Cond.methodLink RX0 84 yX0_dryAndRide, Cond.instanceMethod yX0_dryAndRide, Cond.selects RX0 yX0_dryAndRide yX0_dryAndRide, Cond.code yX0_dryAndRide cX0_dryAndRide 2 none, Cond.methodLink RX0 105 yX0_dries, Cond.instanceMethod yX0_dries, Cond.selects RX0 yX0_dries yX0_dries, Cond.code yX0_dries cX0_dries 3 (some .int)]
def wsX3_speed : List Cond := .code yX3_speed cX3_speed 6 (some .int) :: ((wsX3_speed_r1 ++ (wsX3_speed_r2 ++ (wsX3_speed_r3 ++ (wsX3_speed_r4 ++ wsX3_speed_r5)))) ++ wsX30 ++ wsX00)
def wsX3_far_r1 : List Cond := [Cond.fieldLink RX3 10 "BeamSeats" "real" "LBeamSeats$Island;", Cond.constant RX3 58 (-1000000001), Cond.fieldLink RX3 16 "BeamSeats" "trial" "LBeamSeats$Island;", Cond.fieldLink RX3 100 "BeamSeats$Island" "outs" "[I", Cond.fieldLink RX3 115 "BeamSeats$Island" "times" "[I", Cond.methodLink RX3 90 yX0_has, Cond.instanceMethod yX0_has, Cond.selects RX0 yX0_has yX0_has, Cond.initialized RX0, Cond.code yX0_has cX0_has 2 (some .boolean), Cond.fieldLink RX0 24 "BeamSeats$Island" "size" "I", Cond.methodLink RX3 44 yX3_within, Cond.static yX3_within, Cond.initialized RX3, Cond.code yX3_within cX3_within 3 (some .boolean), Cond.methodLink RX3 59 yX3_found, Cond.instanceMethod yX3_found, Cond.selects RX3 yX3_found yX3_found, Cond.code yX3_found cX3_found 3 (some .int), Cond.fieldLink RX3 39 "BeamSeats" "findings" "[I", Cond.methodLink RX3 151 yX0_becomes, Cond.instanceMethod yX0_becomes, Cond.selects RX0 yX0_becomes yX0_becomes, Cond.code yX0_becomes cX0_becomes 3 none]
def wsX3_far_r2 : List Cond := [Cond.fieldLink RX0 9 "BeamSeats$Island" "second" "I", Cond.fieldLink RX0 15 "BeamSeats$Island" "bearing" "I", Cond.fieldLink RX0 18 "BeamSeats$Island" "speed" "I", Cond.fieldLink RX0 21 "BeamSeats$Island" "thick" "I", Cond.fieldLink RX0 27 "BeamSeats$Island" "onSet" "I", Cond.fieldLink RX0 30 "BeamSeats$Island" "lostSet" "I", Cond.fieldLink RX0 33 "BeamSeats$Island" "kinds" "[I", Cond.fieldLink RX0 37 "BeamSeats$Island" "places" "[I", Cond.fieldLink RX0 40 "BeamSeats$Island" "outs" "[I", Cond.fieldLink RX0 43 "BeamSeats$Island" "wets" "[I", Cond.fieldLink RX0 46 "BeamSeats$Island" "goals" "[I", Cond.fieldLink RX0 49 "BeamSeats$Island" "times" "[I", Cond.methodLink RX3 148 yX0_goSeconds, Cond.instanceMethod yX0_goSeconds, Cond.selects RX0 yX0_goSeconds yX0_goSeconds, Cond.code yX0_goSeconds cX0_goSeconds 5 none, Cond.methodLink RX0 80 yX0_passBearing, Cond.instanceMethod yX0_passBearing, Cond.selects RX0 yX0_passBearing yX0_passBearing, Cond.code yX0_passBearing cX0_passBearing 4 none, Cond.methodLink RX0 87 yX0_leaveOrBeLost, Cond.instanceMethod yX0_leaveOrBeLost, Cond.selects RX0 yX0_leaveOrBeLost yX0_leaveOrBeLost, Cond.code yX0_leaveOrBeLost cX0_leaveOrBeLost 2 none]
def wsX3_far_r3 : List Cond := [Cond.methodLink RX0 99 yX0_getsOff, Cond.instanceMethod yX0_getsOff, Cond.selects RX0 yX0_getsOff yX0_getsOff, Cond.code yX0_getsOff cX0_getsOff 2 (some .boolean), Cond.methodLink RX0 102 yX0_goOff, Cond.instanceMethod yX0_goOff, Cond.selects RX0 yX0_goOff yX0_goOff, Cond.code yX0_goOff cX0_goOff 2 none, Cond.methodLink RX0 90 yX0_getsOn, Cond.instanceMethod yX0_getsOn, Cond.selects RX0 yX0_getsOn yX0_getsOn, Cond.code yX0_getsOn cX0_getsOn 2 (some .boolean), Cond.methodLink RX0 72 yJ6_bitCount_0f7a4, Cond.static yJ6_bitCount_0f7a4, Cond.initialized RJ6, Cond.code yJ6_bitCount_0f7a4 cJ6_bitCount_0f7a4 1 (some .int), Cond.constant RJ6 265 (1431655765), Cond.constant RJ6 266 (858993459), Cond.constant RJ6 267 (252645135), Cond.methodLink RX0 93 yX0_isBorne, Cond.instanceMethod yX0_isBorne, Cond.selects RX0 yX0_isBorne yX0_isBorne, Cond.code yX0_isBorne cX0_isBorne 2 (some .boolean), Cond.methodLink RX0 66 yX0_weightAt]
def wsX3_far_r4 : List Cond := [Cond.instanceMethod yX0_weightAt, Cond.selects RX0 yX0_weightAt yX0_weightAt, Cond.code yX0_weightAt cX0_weightAt 4 (some .int), Cond.methodLink RX0 52 yX0_isOn, Cond.instanceMethod yX0_isOn, Cond.selects RX0 yX0_isOn yX0_isOn, Cond.code yX0_isOn cX0_isOn 2 (some .boolean), Cond.methodLink RX0 56 yX0_weightOf, Cond.instanceMethod yX0_weightOf, Cond.selects RX0 yX0_weightOf yX0_weightOf, Cond.code yX0_weightOf cX0_weightOf 3 (some .int), Cond.methodLink RX0 69 yX0_bears, Cond.instanceMethod yX0_bears, Cond.selects RX0 yX0_bears yX0_bears, Cond.code yX0_bears cX0_bears 2 (some .int), Cond.methodLink RX0 60 Lib.Math.max.name, Cond.static Lib.Math.max.name, Cond.initialized "java/lang/Math", Cond.code Lib.Math.max.name Lib.Math.max.code 2 (some .int), Cond.methodLink RX0 96 yX0_comeOn, Cond.instanceMethod yX0_comeOn, Cond.selects RX0 yX0_comeOn yX0_comeOn, Cond.code yX0_comeOn cX0_comeOn 2 none, Cond.methodLink RX0 77 Lib.Math.min.name]
def wsX3_far_r5 : List Cond := [Cond.static Lib.Math.min.name, Cond.code Lib.Math.min.name Lib.Math.min.code 2 (some .int), Cond.methodLink RX0 84 yX0_dryAndRide, Cond.instanceMethod yX0_dryAndRide, Cond.selects RX0 yX0_dryAndRide yX0_dryAndRide, Cond.code yX0_dryAndRide cX0_dryAndRide 2 none, Cond.methodLink RX0 105 yX0_dries, Cond.instanceMethod yX0_dries, Cond.selects RX0 yX0_dries yX0_dries, Cond.code yX0_dries cX0_dries 3 (some .int)]
def wsX3_far : List Cond := .code yX3_far cX3_far 6 (some .int) :: ((wsX3_far_r1 ++ (wsX3_far_r2 ++ (wsX3_far_r3 ++ (wsX3_far_r4 ++ wsX3_far_r5)))) ++ wsX30 ++ wsX00)
def wsX3_kind_r1 : List Cond := [Cond.fieldLink RX3 10 "BeamSeats" "real" "LBeamSeats$Island;", Cond.constant RX3 58 (-1000000001), Cond.fieldLink RX3 16 "BeamSeats" "trial" "LBeamSeats$Island;", Cond.fieldLink RX3 94 "BeamSeats$Island" "kinds" "[I", Cond.fieldLink RX3 106 "BeamSeats$Island" "wets" "[I", Cond.methodLink RX3 90 yX0_has, Cond.instanceMethod yX0_has, Cond.selects RX0 yX0_has yX0_has, Cond.initialized RX0, Cond.code yX0_has cX0_has 2 (some .boolean), Cond.fieldLink RX0 24 "BeamSeats$Island" "size" "I", Cond.methodLink RX3 44 yX3_within, Cond.static yX3_within, Cond.initialized RX3, Cond.code yX3_within cX3_within 3 (some .boolean), Cond.methodLink RX3 59 yX3_found, Cond.instanceMethod yX3_found, Cond.selects RX3 yX3_found yX3_found, Cond.code yX3_found cX3_found 3 (some .int), Cond.fieldLink RX3 39 "BeamSeats" "findings" "[I", Cond.methodLink RX3 151 yX0_becomes, Cond.instanceMethod yX0_becomes, Cond.selects RX0 yX0_becomes yX0_becomes, Cond.code yX0_becomes cX0_becomes 3 none]
def wsX3_kind_r2 : List Cond := [Cond.fieldLink RX0 9 "BeamSeats$Island" "second" "I", Cond.fieldLink RX0 15 "BeamSeats$Island" "bearing" "I", Cond.fieldLink RX0 18 "BeamSeats$Island" "speed" "I", Cond.fieldLink RX0 21 "BeamSeats$Island" "thick" "I", Cond.fieldLink RX0 27 "BeamSeats$Island" "onSet" "I", Cond.fieldLink RX0 30 "BeamSeats$Island" "lostSet" "I", Cond.fieldLink RX0 33 "BeamSeats$Island" "kinds" "[I", Cond.fieldLink RX0 37 "BeamSeats$Island" "places" "[I", Cond.fieldLink RX0 40 "BeamSeats$Island" "outs" "[I", Cond.fieldLink RX0 43 "BeamSeats$Island" "wets" "[I", Cond.fieldLink RX0 46 "BeamSeats$Island" "goals" "[I", Cond.fieldLink RX0 49 "BeamSeats$Island" "times" "[I", Cond.methodLink RX3 148 yX0_goSeconds, Cond.instanceMethod yX0_goSeconds, Cond.selects RX0 yX0_goSeconds yX0_goSeconds, Cond.code yX0_goSeconds cX0_goSeconds 5 none, Cond.methodLink RX0 80 yX0_passBearing, Cond.instanceMethod yX0_passBearing, Cond.selects RX0 yX0_passBearing yX0_passBearing, Cond.code yX0_passBearing cX0_passBearing 4 none, Cond.methodLink RX0 87 yX0_leaveOrBeLost, Cond.instanceMethod yX0_leaveOrBeLost, Cond.selects RX0 yX0_leaveOrBeLost yX0_leaveOrBeLost, Cond.code yX0_leaveOrBeLost cX0_leaveOrBeLost 2 none]
def wsX3_kind_r3 : List Cond := [Cond.methodLink RX0 99 yX0_getsOff, Cond.instanceMethod yX0_getsOff, Cond.selects RX0 yX0_getsOff yX0_getsOff, Cond.code yX0_getsOff cX0_getsOff 2 (some .boolean), Cond.methodLink RX0 102 yX0_goOff, Cond.instanceMethod yX0_goOff, Cond.selects RX0 yX0_goOff yX0_goOff, Cond.code yX0_goOff cX0_goOff 2 none, Cond.methodLink RX0 90 yX0_getsOn, Cond.instanceMethod yX0_getsOn, Cond.selects RX0 yX0_getsOn yX0_getsOn, Cond.code yX0_getsOn cX0_getsOn 2 (some .boolean), Cond.methodLink RX0 72 yJ6_bitCount_0f7a4, Cond.static yJ6_bitCount_0f7a4, Cond.initialized RJ6, Cond.code yJ6_bitCount_0f7a4 cJ6_bitCount_0f7a4 1 (some .int), Cond.constant RJ6 265 (1431655765), Cond.constant RJ6 266 (858993459), Cond.constant RJ6 267 (252645135), Cond.methodLink RX0 93 yX0_isBorne, Cond.instanceMethod yX0_isBorne, Cond.selects RX0 yX0_isBorne yX0_isBorne, Cond.code yX0_isBorne cX0_isBorne 2 (some .boolean), Cond.methodLink RX0 66 yX0_weightAt]
def wsX3_kind_r4 : List Cond := [Cond.instanceMethod yX0_weightAt, Cond.selects RX0 yX0_weightAt yX0_weightAt, Cond.code yX0_weightAt cX0_weightAt 4 (some .int), Cond.methodLink RX0 52 yX0_isOn, Cond.instanceMethod yX0_isOn, Cond.selects RX0 yX0_isOn yX0_isOn, Cond.code yX0_isOn cX0_isOn 2 (some .boolean), Cond.methodLink RX0 56 yX0_weightOf, Cond.instanceMethod yX0_weightOf, Cond.selects RX0 yX0_weightOf yX0_weightOf, Cond.code yX0_weightOf cX0_weightOf 3 (some .int), Cond.methodLink RX0 69 yX0_bears, Cond.instanceMethod yX0_bears, Cond.selects RX0 yX0_bears yX0_bears, Cond.code yX0_bears cX0_bears 2 (some .int), Cond.methodLink RX0 60 Lib.Math.max.name, Cond.static Lib.Math.max.name, Cond.initialized "java/lang/Math", Cond.code Lib.Math.max.name Lib.Math.max.code 2 (some .int), Cond.methodLink RX0 96 yX0_comeOn, Cond.instanceMethod yX0_comeOn, Cond.selects RX0 yX0_comeOn yX0_comeOn, Cond.code yX0_comeOn cX0_comeOn 2 none, Cond.methodLink RX0 77 Lib.Math.min.name]
def wsX3_kind_r5 : List Cond := [Cond.static Lib.Math.min.name, Cond.code Lib.Math.min.name Lib.Math.min.code 2 (some .int), Cond.methodLink RX0 84 yX0_dryAndRide, Cond.instanceMethod yX0_dryAndRide, Cond.selects RX0 yX0_dryAndRide yX0_dryAndRide, Cond.code yX0_dryAndRide cX0_dryAndRide 2 none, Cond.methodLink RX0 105 yX0_dries, Cond.instanceMethod yX0_dries, Cond.selects RX0 yX0_dries yX0_dries, Cond.code yX0_dries cX0_dries 3 (some .int)]
def wsX3_kind : List Cond := .code yX3_kind cX3_kind 6 (some .int) :: ((wsX3_kind_r1 ++ (wsX3_kind_r2 ++ (wsX3_kind_r3 ++ (wsX3_kind_r4 ++ wsX3_kind_r5)))) ++ wsX30 ++ wsX00)
def wsX3_thick_r1 : List Cond := [Cond.constant RX3 58 (-1000000001), Cond.fieldLink RX3 16 "BeamSeats" "trial" "LBeamSeats$Island;", Cond.fieldLink RX3 10 "BeamSeats" "real" "LBeamSeats$Island;", Cond.fieldLink RX3 55 "BeamSeats$Island" "thick" "I", Cond.fieldLink RX3 66 "BeamSeats$Island" "onSet" "I", Cond.constant RX3 167 (-1000000004), Cond.methodLink RX3 44 yX3_within, Cond.static yX3_within, Cond.initialized RX3, Cond.code yX3_within cX3_within 3 (some .boolean), Cond.methodLink RX3 59 yX3_found, Cond.instanceMethod yX3_found, Cond.selects RX3 yX3_found yX3_found, Cond.code yX3_found cX3_found 3 (some .int), Cond.fieldLink RX3 39 "BeamSeats" "findings" "[I", Cond.methodLink RX3 151 yX0_becomes, Cond.instanceMethod yX0_becomes, Cond.selects RX0 yX0_becomes yX0_becomes, Cond.initialized RX0, Cond.code yX0_becomes cX0_becomes 3 none, Cond.fieldLink RX0 9 "BeamSeats$Island" "second" "I", Cond.fieldLink RX0 15 "BeamSeats$Island" "bearing" "I", Cond.fieldLink RX0 18 "BeamSeats$Island" "speed" "I", Cond.fieldLink RX0 21 "BeamSeats$Island" "thick" "I"]
def wsX3_thick_r2 : List Cond := [Cond.fieldLink RX0 24 "BeamSeats$Island" "size" "I", Cond.fieldLink RX0 27 "BeamSeats$Island" "onSet" "I", Cond.fieldLink RX0 30 "BeamSeats$Island" "lostSet" "I", Cond.fieldLink RX0 33 "BeamSeats$Island" "kinds" "[I", Cond.fieldLink RX0 37 "BeamSeats$Island" "places" "[I", Cond.fieldLink RX0 40 "BeamSeats$Island" "outs" "[I", Cond.fieldLink RX0 43 "BeamSeats$Island" "wets" "[I", Cond.fieldLink RX0 46 "BeamSeats$Island" "goals" "[I", Cond.fieldLink RX0 49 "BeamSeats$Island" "times" "[I", Cond.methodLink RX3 148 yX0_goSeconds, Cond.instanceMethod yX0_goSeconds, Cond.selects RX0 yX0_goSeconds yX0_goSeconds, Cond.code yX0_goSeconds cX0_goSeconds 5 none, Cond.methodLink RX0 80 yX0_passBearing, Cond.instanceMethod yX0_passBearing, Cond.selects RX0 yX0_passBearing yX0_passBearing, Cond.code yX0_passBearing cX0_passBearing 4 none, Cond.methodLink RX0 87 yX0_leaveOrBeLost, Cond.instanceMethod yX0_leaveOrBeLost, Cond.selects RX0 yX0_leaveOrBeLost yX0_leaveOrBeLost, Cond.code yX0_leaveOrBeLost cX0_leaveOrBeLost 2 none, Cond.methodLink RX0 99 yX0_getsOff, Cond.instanceMethod yX0_getsOff, Cond.selects RX0 yX0_getsOff yX0_getsOff]
def wsX3_thick_r3 : List Cond := [Cond.code yX0_getsOff cX0_getsOff 2 (some .boolean), Cond.methodLink RX0 102 yX0_goOff, Cond.instanceMethod yX0_goOff, Cond.selects RX0 yX0_goOff yX0_goOff, Cond.code yX0_goOff cX0_goOff 2 none, Cond.methodLink RX0 90 yX0_getsOn, Cond.instanceMethod yX0_getsOn, Cond.selects RX0 yX0_getsOn yX0_getsOn, Cond.code yX0_getsOn cX0_getsOn 2 (some .boolean), Cond.methodLink RX0 72 yJ6_bitCount_0f7a4, Cond.static yJ6_bitCount_0f7a4, Cond.initialized RJ6, Cond.code yJ6_bitCount_0f7a4 cJ6_bitCount_0f7a4 1 (some .int), Cond.constant RJ6 265 (1431655765), Cond.constant RJ6 266 (858993459), Cond.constant RJ6 267 (252645135), Cond.methodLink RX0 93 yX0_isBorne, Cond.instanceMethod yX0_isBorne, Cond.selects RX0 yX0_isBorne yX0_isBorne, Cond.code yX0_isBorne cX0_isBorne 2 (some .boolean), Cond.methodLink RX0 66 yX0_weightAt, Cond.instanceMethod yX0_weightAt, Cond.selects RX0 yX0_weightAt yX0_weightAt, Cond.code yX0_weightAt cX0_weightAt 4 (some .int)]
def wsX3_thick_r4 : List Cond := [Cond.methodLink RX0 52 yX0_isOn, Cond.instanceMethod yX0_isOn, Cond.selects RX0 yX0_isOn yX0_isOn, Cond.code yX0_isOn cX0_isOn 2 (some .boolean), Cond.methodLink RX0 56 yX0_weightOf, Cond.instanceMethod yX0_weightOf, Cond.selects RX0 yX0_weightOf yX0_weightOf, Cond.code yX0_weightOf cX0_weightOf 3 (some .int), Cond.methodLink RX0 69 yX0_bears, Cond.instanceMethod yX0_bears, Cond.selects RX0 yX0_bears yX0_bears, Cond.code yX0_bears cX0_bears 2 (some .int), Cond.methodLink RX0 60 Lib.Math.max.name, Cond.static Lib.Math.max.name, Cond.initialized "java/lang/Math", Cond.code Lib.Math.max.name Lib.Math.max.code 2 (some .int), Cond.methodLink RX0 96 yX0_comeOn, Cond.instanceMethod yX0_comeOn, Cond.selects RX0 yX0_comeOn yX0_comeOn, Cond.code yX0_comeOn cX0_comeOn 2 none, Cond.methodLink RX0 77 Lib.Math.min.name, Cond.static Lib.Math.min.name, Cond.code Lib.Math.min.name Lib.Math.min.code 2 (some .int), Cond.methodLink RX0 84 yX0_dryAndRide]
def wsX3_thick_r5 : List Cond := [Cond.instanceMethod yX0_dryAndRide, Cond.selects RX0 yX0_dryAndRide yX0_dryAndRide, Cond.code yX0_dryAndRide cX0_dryAndRide 2 none, Cond.methodLink RX0 105 yX0_dries, Cond.instanceMethod yX0_dries, Cond.selects RX0 yX0_dries yX0_dries, Cond.code yX0_dries cX0_dries 3 (some .int), Cond.methodLink RX3 155 yJ6_bitCount_0f7a4]
def wsX3_thick : List Cond := .code yX3_thick cX3_thick 4 (some .int) :: ((wsX3_thick_r1 ++ (wsX3_thick_r2 ++ (wsX3_thick_r3 ++ (wsX3_thick_r4 ++ wsX3_thick_r5)))) ++ wsX30 ++ wsX00)
def wsX3_lostWithout_r1 : List Cond := [Cond.fieldLink RX3 16 "BeamSeats" "trial" "LBeamSeats$Island;", Cond.fieldLink RX3 10 "BeamSeats" "real" "LBeamSeats$Island;", Cond.fieldLink RX3 69 "BeamSeats$Island" "lostSet" "I", Cond.methodLink RX3 151 yX0_becomes, Cond.instanceMethod yX0_becomes, Cond.selects RX0 yX0_becomes yX0_becomes, Cond.initialized RX0, Cond.code yX0_becomes cX0_becomes 3 none, Cond.fieldLink RX0 9 "BeamSeats$Island" "second" "I", Cond.fieldLink RX0 15 "BeamSeats$Island" "bearing" "I", Cond.fieldLink RX0 18 "BeamSeats$Island" "speed" "I", Cond.fieldLink RX0 21 "BeamSeats$Island" "thick" "I", Cond.fieldLink RX0 24 "BeamSeats$Island" "size" "I", Cond.fieldLink RX0 27 "BeamSeats$Island" "onSet" "I", Cond.fieldLink RX0 30 "BeamSeats$Island" "lostSet" "I", Cond.fieldLink RX0 33 "BeamSeats$Island" "kinds" "[I", Cond.fieldLink RX0 37 "BeamSeats$Island" "places" "[I", Cond.fieldLink RX0 40 "BeamSeats$Island" "outs" "[I", Cond.fieldLink RX0 43 "BeamSeats$Island" "wets" "[I", Cond.fieldLink RX0 46 "BeamSeats$Island" "goals" "[I", Cond.fieldLink RX0 49 "BeamSeats$Island" "times" "[I", Cond.methodLink RX3 144 yX0_goOff, Cond.instanceMethod yX0_goOff, Cond.selects RX0 yX0_goOff yX0_goOff]
def wsX3_lostWithout_r2 : List Cond := [Cond.code yX0_goOff cX0_goOff 2 none, Cond.methodLink RX3 148 yX0_goSeconds, Cond.instanceMethod yX0_goSeconds, Cond.selects RX0 yX0_goSeconds yX0_goSeconds, Cond.code yX0_goSeconds cX0_goSeconds 5 none, Cond.methodLink RX0 80 yX0_passBearing, Cond.instanceMethod yX0_passBearing, Cond.selects RX0 yX0_passBearing yX0_passBearing, Cond.code yX0_passBearing cX0_passBearing 4 none, Cond.methodLink RX0 87 yX0_leaveOrBeLost, Cond.instanceMethod yX0_leaveOrBeLost, Cond.selects RX0 yX0_leaveOrBeLost yX0_leaveOrBeLost, Cond.code yX0_leaveOrBeLost cX0_leaveOrBeLost 2 none, Cond.methodLink RX0 99 yX0_getsOff, Cond.instanceMethod yX0_getsOff, Cond.selects RX0 yX0_getsOff yX0_getsOff, Cond.code yX0_getsOff cX0_getsOff 2 (some .boolean), Cond.methodLink RX0 102 yX0_goOff, Cond.methodLink RX0 90 yX0_getsOn, Cond.instanceMethod yX0_getsOn, Cond.selects RX0 yX0_getsOn yX0_getsOn, Cond.code yX0_getsOn cX0_getsOn 2 (some .boolean), Cond.methodLink RX0 72 yJ6_bitCount_0f7a4, Cond.static yJ6_bitCount_0f7a4]
def wsX3_lostWithout_r3 : List Cond := [Cond.initialized RJ6, Cond.code yJ6_bitCount_0f7a4 cJ6_bitCount_0f7a4 1 (some .int), Cond.constant RJ6 265 (1431655765), Cond.constant RJ6 266 (858993459), Cond.constant RJ6 267 (252645135), Cond.methodLink RX0 93 yX0_isBorne, Cond.instanceMethod yX0_isBorne, Cond.selects RX0 yX0_isBorne yX0_isBorne, Cond.code yX0_isBorne cX0_isBorne 2 (some .boolean), Cond.methodLink RX0 66 yX0_weightAt, Cond.instanceMethod yX0_weightAt, Cond.selects RX0 yX0_weightAt yX0_weightAt, Cond.code yX0_weightAt cX0_weightAt 4 (some .int), Cond.methodLink RX0 52 yX0_isOn, Cond.instanceMethod yX0_isOn, Cond.selects RX0 yX0_isOn yX0_isOn, Cond.code yX0_isOn cX0_isOn 2 (some .boolean), Cond.methodLink RX0 56 yX0_weightOf, Cond.instanceMethod yX0_weightOf, Cond.selects RX0 yX0_weightOf yX0_weightOf, Cond.code yX0_weightOf cX0_weightOf 3 (some .int), Cond.methodLink RX0 69 yX0_bears, Cond.instanceMethod yX0_bears, Cond.selects RX0 yX0_bears yX0_bears]
def wsX3_lostWithout_r4 : List Cond := [Cond.code yX0_bears cX0_bears 2 (some .int), Cond.methodLink RX0 60 Lib.Math.max.name, Cond.static Lib.Math.max.name, Cond.initialized "java/lang/Math", Cond.code Lib.Math.max.name Lib.Math.max.code 2 (some .int), Cond.methodLink RX0 96 yX0_comeOn, Cond.instanceMethod yX0_comeOn, Cond.selects RX0 yX0_comeOn yX0_comeOn, Cond.code yX0_comeOn cX0_comeOn 2 none, Cond.methodLink RX0 77 Lib.Math.min.name, Cond.static Lib.Math.min.name, Cond.code Lib.Math.min.name Lib.Math.min.code 2 (some .int), Cond.methodLink RX0 84 yX0_dryAndRide, Cond.instanceMethod yX0_dryAndRide, Cond.selects RX0 yX0_dryAndRide yX0_dryAndRide, Cond.code yX0_dryAndRide cX0_dryAndRide 2 none, Cond.methodLink RX0 105 yX0_dries, Cond.instanceMethod yX0_dries, Cond.selects RX0 yX0_dries yX0_dries, Cond.code yX0_dries cX0_dries 3 (some .int), Cond.methodLink RX3 155 yJ6_bitCount_0f7a4]
def wsX3_lostWithout : List Cond := .code yX3_lostWithout cX3_lostWithout 3 (some .int) :: ((wsX3_lostWithout_r1 ++ (wsX3_lostWithout_r2 ++ (wsX3_lostWithout_r3 ++ wsX3_lostWithout_r4))) ++ wsX30 ++ wsX00)
def wsX3_save_r1 : List Cond := [Cond.constant RX3 58 (-1000000001), Cond.constant RX3 167 (-1000000004), Cond.fieldLink RX3 10 "BeamSeats" "real" "LBeamSeats$Island;", Cond.fieldLink RX3 82 "BeamSeats$Island" "size" "I", Cond.methodLink RX3 44 yX3_within, Cond.static yX3_within, Cond.initialized RX3, Cond.code yX3_within cX3_within 3 (some .boolean), Cond.methodLink RX3 59 yX3_found, Cond.instanceMethod yX3_found, Cond.selects RX3 yX3_found yX3_found, Cond.code yX3_found cX3_found 3 (some .int), Cond.fieldLink RX3 39 "BeamSeats" "findings" "[I", Cond.methodLink RX3 103 yX0_isOn, Cond.instanceMethod yX0_isOn, Cond.selects RX0 yX0_isOn yX0_isOn, Cond.initialized RX0, Cond.code yX0_isOn cX0_isOn 2 (some .boolean), Cond.fieldLink RX0 27 "BeamSeats$Island" "onSet" "I", Cond.methodLink RX3 168 yX3_lostWithout, Cond.instanceMethod yX3_lostWithout, Cond.selects RX3 yX3_lostWithout yX3_lostWithout, Cond.code yX3_lostWithout cX3_lostWithout 3 (some .int), Cond.fieldLink RX3 16 "BeamSeats" "trial" "LBeamSeats$Island;"]
def wsX3_save_r2 : List Cond := [Cond.fieldLink RX3 69 "BeamSeats$Island" "lostSet" "I", Cond.methodLink RX3 151 yX0_becomes, Cond.instanceMethod yX0_becomes, Cond.selects RX0 yX0_becomes yX0_becomes, Cond.code yX0_becomes cX0_becomes 3 none, Cond.fieldLink RX0 9 "BeamSeats$Island" "second" "I", Cond.fieldLink RX0 15 "BeamSeats$Island" "bearing" "I", Cond.fieldLink RX0 18 "BeamSeats$Island" "speed" "I", Cond.fieldLink RX0 21 "BeamSeats$Island" "thick" "I", Cond.fieldLink RX0 24 "BeamSeats$Island" "size" "I", Cond.fieldLink RX0 30 "BeamSeats$Island" "lostSet" "I", Cond.fieldLink RX0 33 "BeamSeats$Island" "kinds" "[I", Cond.fieldLink RX0 37 "BeamSeats$Island" "places" "[I", Cond.fieldLink RX0 40 "BeamSeats$Island" "outs" "[I", Cond.fieldLink RX0 43 "BeamSeats$Island" "wets" "[I", Cond.fieldLink RX0 46 "BeamSeats$Island" "goals" "[I", Cond.fieldLink RX0 49 "BeamSeats$Island" "times" "[I", Cond.methodLink RX3 144 yX0_goOff, Cond.instanceMethod yX0_goOff, Cond.selects RX0 yX0_goOff yX0_goOff, Cond.code yX0_goOff cX0_goOff 2 none, Cond.methodLink RX3 148 yX0_goSeconds, Cond.instanceMethod yX0_goSeconds, Cond.selects RX0 yX0_goSeconds yX0_goSeconds]
def wsX3_save_r3 : List Cond := [Cond.code yX0_goSeconds cX0_goSeconds 5 none, Cond.methodLink RX0 80 yX0_passBearing, Cond.instanceMethod yX0_passBearing, Cond.selects RX0 yX0_passBearing yX0_passBearing, Cond.code yX0_passBearing cX0_passBearing 4 none, Cond.methodLink RX0 87 yX0_leaveOrBeLost, Cond.instanceMethod yX0_leaveOrBeLost, Cond.selects RX0 yX0_leaveOrBeLost yX0_leaveOrBeLost, Cond.code yX0_leaveOrBeLost cX0_leaveOrBeLost 2 none, Cond.methodLink RX0 99 yX0_getsOff, Cond.instanceMethod yX0_getsOff, Cond.selects RX0 yX0_getsOff yX0_getsOff, Cond.code yX0_getsOff cX0_getsOff 2 (some .boolean), Cond.methodLink RX0 102 yX0_goOff, Cond.methodLink RX0 90 yX0_getsOn, Cond.instanceMethod yX0_getsOn, Cond.selects RX0 yX0_getsOn yX0_getsOn, Cond.code yX0_getsOn cX0_getsOn 2 (some .boolean), Cond.methodLink RX0 72 yJ6_bitCount_0f7a4, Cond.static yJ6_bitCount_0f7a4, Cond.initialized RJ6, Cond.code yJ6_bitCount_0f7a4 cJ6_bitCount_0f7a4 1 (some .int), Cond.constant RJ6 265 (1431655765), Cond.constant RJ6 266 (858993459)]
def wsX3_save_r4 : List Cond := [Cond.constant RJ6 267 (252645135), Cond.methodLink RX0 93 yX0_isBorne, Cond.instanceMethod yX0_isBorne, Cond.selects RX0 yX0_isBorne yX0_isBorne, Cond.code yX0_isBorne cX0_isBorne 2 (some .boolean), Cond.methodLink RX0 66 yX0_weightAt, Cond.instanceMethod yX0_weightAt, Cond.selects RX0 yX0_weightAt yX0_weightAt, Cond.code yX0_weightAt cX0_weightAt 4 (some .int), Cond.methodLink RX0 52 yX0_isOn, Cond.methodLink RX0 56 yX0_weightOf, Cond.instanceMethod yX0_weightOf, Cond.selects RX0 yX0_weightOf yX0_weightOf, Cond.code yX0_weightOf cX0_weightOf 3 (some .int), Cond.methodLink RX0 69 yX0_bears, Cond.instanceMethod yX0_bears, Cond.selects RX0 yX0_bears yX0_bears, Cond.code yX0_bears cX0_bears 2 (some .int), Cond.methodLink RX0 60 Lib.Math.max.name, Cond.static Lib.Math.max.name, Cond.initialized "java/lang/Math", Cond.code Lib.Math.max.name Lib.Math.max.code 2 (some .int), Cond.methodLink RX0 96 yX0_comeOn, Cond.instanceMethod yX0_comeOn]
def wsX3_save_r5 : List Cond := [Cond.selects RX0 yX0_comeOn yX0_comeOn, Cond.code yX0_comeOn cX0_comeOn 2 none, Cond.methodLink RX0 77 Lib.Math.min.name, Cond.static Lib.Math.min.name, Cond.code Lib.Math.min.name Lib.Math.min.code 2 (some .int), Cond.methodLink RX0 84 yX0_dryAndRide, Cond.instanceMethod yX0_dryAndRide, Cond.selects RX0 yX0_dryAndRide yX0_dryAndRide, Cond.code yX0_dryAndRide cX0_dryAndRide 2 none, Cond.methodLink RX0 105 yX0_dries, Cond.instanceMethod yX0_dries, Cond.selects RX0 yX0_dries yX0_dries, Cond.code yX0_dries cX0_dries 3 (some .int), Cond.methodLink RX3 155 yJ6_bitCount_0f7a4, Cond.methodLink RX3 164 yX3_orNone, Cond.instanceMethod yX3_orNone, Cond.selects RX3 yX3_orNone yX3_orNone, Cond.code yX3_orNone cX3_orNone 2 (some .int)]
def wsX3_save : List Cond := .code yX3_save cX3_save 6 (some .int) :: ((wsX3_save_r1 ++ (wsX3_save_r2 ++ (wsX3_save_r3 ++ (wsX3_save_r4 ++ wsX3_save_r5)))) ++ wsX30 ++ wsX00)
def wsX3_goal_r1 : List Cond := [Cond.fieldLink RX3 10 "BeamSeats" "real" "LBeamSeats$Island;", Cond.constant RX3 58 (-1000000001), Cond.constant RX3 167 (-1000000004), Cond.fieldLink RX3 16 "BeamSeats" "trial" "LBeamSeats$Island;", Cond.fieldLink RX3 109 "BeamSeats$Island" "goals" "[I", Cond.methodLink RX3 90 yX0_has, Cond.instanceMethod yX0_has, Cond.selects RX0 yX0_has yX0_has, Cond.initialized RX0, Cond.code yX0_has cX0_has 2 (some .boolean), Cond.fieldLink RX0 24 "BeamSeats$Island" "size" "I", Cond.methodLink RX3 59 yX3_found, Cond.instanceMethod yX3_found, Cond.selects RX3 yX3_found yX3_found, Cond.initialized RX3, Cond.code yX3_found cX3_found 3 (some .int), Cond.fieldLink RX3 39 "BeamSeats" "findings" "[I", Cond.methodLink RX3 44 yX3_within, Cond.static yX3_within, Cond.code yX3_within cX3_within 3 (some .boolean), Cond.methodLink RX3 151 yX0_becomes, Cond.instanceMethod yX0_becomes, Cond.selects RX0 yX0_becomes yX0_becomes, Cond.code yX0_becomes cX0_becomes 3 none]
def wsX3_goal_r2 : List Cond := [Cond.fieldLink RX0 9 "BeamSeats$Island" "second" "I", Cond.fieldLink RX0 15 "BeamSeats$Island" "bearing" "I", Cond.fieldLink RX0 18 "BeamSeats$Island" "speed" "I", Cond.fieldLink RX0 21 "BeamSeats$Island" "thick" "I", Cond.fieldLink RX0 27 "BeamSeats$Island" "onSet" "I", Cond.fieldLink RX0 30 "BeamSeats$Island" "lostSet" "I", Cond.fieldLink RX0 33 "BeamSeats$Island" "kinds" "[I", Cond.fieldLink RX0 37 "BeamSeats$Island" "places" "[I", Cond.fieldLink RX0 40 "BeamSeats$Island" "outs" "[I", Cond.fieldLink RX0 43 "BeamSeats$Island" "wets" "[I", Cond.fieldLink RX0 46 "BeamSeats$Island" "goals" "[I", Cond.fieldLink RX0 49 "BeamSeats$Island" "times" "[I", Cond.methodLink RX3 160 yX3_secondsUntil, Cond.instanceMethod yX3_secondsUntil, Cond.selects RX3 yX3_secondsUntil yX3_secondsUntil, Cond.code yX3_secondsUntil cX3_secondsUntil 5 (some .int), Cond.methodLink RX3 223 yX0_isSo, Cond.instanceMethod yX0_isSo, Cond.selects RX0 yX0_isSo yX0_isSo, Cond.code yX0_isSo cX0_isSo 3 (some .boolean), Cond.methodLink RX0 52 yX0_isOn, Cond.instanceMethod yX0_isOn, Cond.selects RX0 yX0_isOn yX0_isOn, Cond.code yX0_isOn cX0_isOn 2 (some .boolean)]
def wsX3_goal_r3 : List Cond := [Cond.methodLink RX0 108 yX0_isLost, Cond.instanceMethod yX0_isLost, Cond.selects RX0 yX0_isLost yX0_isLost, Cond.code yX0_isLost cX0_isLost 2 (some .boolean), Cond.methodLink RX3 148 yX0_goSeconds, Cond.instanceMethod yX0_goSeconds, Cond.selects RX0 yX0_goSeconds yX0_goSeconds, Cond.code yX0_goSeconds cX0_goSeconds 5 none, Cond.methodLink RX0 80 yX0_passBearing, Cond.instanceMethod yX0_passBearing, Cond.selects RX0 yX0_passBearing yX0_passBearing, Cond.code yX0_passBearing cX0_passBearing 4 none, Cond.methodLink RX0 87 yX0_leaveOrBeLost, Cond.instanceMethod yX0_leaveOrBeLost, Cond.selects RX0 yX0_leaveOrBeLost yX0_leaveOrBeLost, Cond.code yX0_leaveOrBeLost cX0_leaveOrBeLost 2 none, Cond.methodLink RX0 99 yX0_getsOff, Cond.instanceMethod yX0_getsOff, Cond.selects RX0 yX0_getsOff yX0_getsOff, Cond.code yX0_getsOff cX0_getsOff 2 (some .boolean), Cond.methodLink RX0 102 yX0_goOff, Cond.instanceMethod yX0_goOff, Cond.selects RX0 yX0_goOff yX0_goOff, Cond.code yX0_goOff cX0_goOff 2 none]
def wsX3_goal_r4 : List Cond := [Cond.methodLink RX0 90 yX0_getsOn, Cond.instanceMethod yX0_getsOn, Cond.selects RX0 yX0_getsOn yX0_getsOn, Cond.code yX0_getsOn cX0_getsOn 2 (some .boolean), Cond.methodLink RX0 72 yJ6_bitCount_0f7a4, Cond.static yJ6_bitCount_0f7a4, Cond.initialized RJ6, Cond.code yJ6_bitCount_0f7a4 cJ6_bitCount_0f7a4 1 (some .int), Cond.constant RJ6 265 (1431655765), Cond.constant RJ6 266 (858993459), Cond.constant RJ6 267 (252645135), Cond.methodLink RX0 93 yX0_isBorne, Cond.instanceMethod yX0_isBorne, Cond.selects RX0 yX0_isBorne yX0_isBorne, Cond.code yX0_isBorne cX0_isBorne 2 (some .boolean), Cond.methodLink RX0 66 yX0_weightAt, Cond.instanceMethod yX0_weightAt, Cond.selects RX0 yX0_weightAt yX0_weightAt, Cond.code yX0_weightAt cX0_weightAt 4 (some .int), Cond.methodLink RX0 56 yX0_weightOf, Cond.instanceMethod yX0_weightOf, Cond.selects RX0 yX0_weightOf yX0_weightOf, Cond.code yX0_weightOf cX0_weightOf 3 (some .int), Cond.methodLink RX0 69 yX0_bears]
def wsX3_goal_r5 : List Cond := [Cond.instanceMethod yX0_bears, Cond.selects RX0 yX0_bears yX0_bears, Cond.code yX0_bears cX0_bears 2 (some .int), Cond.methodLink RX0 60 Lib.Math.max.name, Cond.static Lib.Math.max.name, Cond.initialized "java/lang/Math", Cond.code Lib.Math.max.name Lib.Math.max.code 2 (some .int), Cond.methodLink RX0 96 yX0_comeOn, Cond.instanceMethod yX0_comeOn, Cond.selects RX0 yX0_comeOn yX0_comeOn, Cond.code yX0_comeOn cX0_comeOn 2 none, Cond.methodLink RX0 77 Lib.Math.min.name, Cond.static Lib.Math.min.name, Cond.code Lib.Math.min.name Lib.Math.min.code 2 (some .int), Cond.methodLink RX0 84 yX0_dryAndRide, Cond.instanceMethod yX0_dryAndRide, Cond.selects RX0 yX0_dryAndRide yX0_dryAndRide, Cond.code yX0_dryAndRide cX0_dryAndRide 2 none, Cond.methodLink RX0 105 yX0_dries, Cond.instanceMethod yX0_dries, Cond.selects RX0 yX0_dries yX0_dries, Cond.code yX0_dries cX0_dries 3 (some .int), Cond.methodLink RX3 164 yX3_orNone, Cond.instanceMethod yX3_orNone]
def wsX3_goal_r6 : List Cond := [Cond.selects RX3 yX3_orNone yX3_orNone, Cond.code yX3_orNone cX3_orNone 2 (some .int)]
def wsX3_goal : List Cond := .code yX3_goal cX3_goal 6 (some .int) :: ((wsX3_goal_r1 ++ (wsX3_goal_r2 ++ (wsX3_goal_r3 ++ (wsX3_goal_r4 ++ (wsX3_goal_r5 ++ wsX3_goal_r6))))) ++ wsX30 ++ wsX00)
def wsX3_feed : List Cond := .code yX3_feed cX3_feed 4 (some .int) :: ([.constant RX3 58 (-1000000001), .fieldLink RX3 29 "BeamSeats" "tape" "LBeamSeats$Tape;", .fieldLink RX3 171 "BeamSeats$Tape" "size" "I", .constant RX3 85 (-1000000002), .methodLink RX3 44 yX3_within, .static yX3_within, .initialized RX3, .code yX3_within cX3_within 3 (some .boolean), .methodLink RX3 59 yX3_found, .instanceMethod yX3_found, .selects RX3 yX3_found yX3_found, .code yX3_found cX3_found 3 (some .int), .fieldLink RX3 39 "BeamSeats" "findings" "[I", .methodLink RX3 172 yX2_append, .instanceMethod yX2_append, .selects RX2 yX2_append yX2_append, .initialized RX2, .code yX2_append cX2_append 2 none, .fieldLink RX2 9 "BeamSeats$Tape" "bytes" "[B", .fieldLink RX2 15 "BeamSeats$Tape" "size" "I"] ++ wsX30 ++ wsX20)
def wsX3_wipe : List Cond := .code yX3_wipe cX3_wipe 2 (some .int) :: ([.fieldLink RX3 29 "BeamSeats" "tape" "LBeamSeats$Tape;", .fieldLink RX3 171 "BeamSeats$Tape" "size" "I"] ++ wsX30 ++ wsX20)
def wsX3_island_r1 : List Cond := [Cond.fieldLink RX3 16 "BeamSeats" "trial" "LBeamSeats$Island;", Cond.fieldLink RX3 10 "BeamSeats" "real" "LBeamSeats$Island;", Cond.fieldLink RX3 29 "BeamSeats" "tape" "LBeamSeats$Tape;", Cond.fieldLink RX3 171 "BeamSeats$Tape" "size" "I", Cond.methodLink RX3 151 yX0_becomes, Cond.instanceMethod yX0_becomes, Cond.selects RX0 yX0_becomes yX0_becomes, Cond.initialized RX0, Cond.code yX0_becomes cX0_becomes 3 none, Cond.fieldLink RX0 9 "BeamSeats$Island" "second" "I", Cond.fieldLink RX0 15 "BeamSeats$Island" "bearing" "I", Cond.fieldLink RX0 18 "BeamSeats$Island" "speed" "I", Cond.fieldLink RX0 21 "BeamSeats$Island" "thick" "I", Cond.fieldLink RX0 24 "BeamSeats$Island" "size" "I", Cond.fieldLink RX0 27 "BeamSeats$Island" "onSet" "I", Cond.fieldLink RX0 30 "BeamSeats$Island" "lostSet" "I", Cond.fieldLink RX0 33 "BeamSeats$Island" "kinds" "[I", Cond.fieldLink RX0 37 "BeamSeats$Island" "places" "[I", Cond.fieldLink RX0 40 "BeamSeats$Island" "outs" "[I", Cond.fieldLink RX0 43 "BeamSeats$Island" "wets" "[I", Cond.fieldLink RX0 46 "BeamSeats$Island" "goals" "[I", Cond.fieldLink RX0 49 "BeamSeats$Island" "times" "[I", Cond.methodLink RX3 176 yX2_tell, Cond.instanceMethod yX2_tell]
def wsX3_island_r2 : List Cond := [Cond.selects RX2 yX2_tell yX2_tell, Cond.initialized RX2, Cond.code yX2_tell cX2_tell 3 (some .int), Cond.fieldLink RX2 29 "BeamSeats$Tape" "next" "I", Cond.fieldLink RX2 19 "BeamSeats$Tape" "tokens" "[I", Cond.fieldLink RX2 23 "BeamSeats$Tape" "starts" "[I", Cond.methodLink RX2 35 yX2_cutTokens, Cond.instanceMethod yX2_cutTokens, Cond.selects RX2 yX2_cutTokens yX2_cutTokens, Cond.code yX2_cutTokens cX2_cutTokens 4 none, Cond.fieldLink RX2 15 "BeamSeats$Tape" "size" "I", Cond.fieldLink RX2 9 "BeamSeats$Tape" "bytes" "[B", Cond.methodLink RX2 83 yX2_cutToken, Cond.instanceMethod yX2_cutToken, Cond.selects RX2 yX2_cutToken yX2_cutToken, Cond.code yX2_cutToken cX2_cutToken 4 (some .int), Cond.fieldLink RX2 26 "BeamSeats$Tape" "values" "[I", Cond.methodLink RX2 86 yX2_isLetter, Cond.static yX2_isLetter, Cond.code yX2_isLetter cX2_isLetter 1 (some .boolean), Cond.methodLink RX2 90 yX2_wordAt, Cond.instanceMethod yX2_wordAt, Cond.selects RX2 yX2_wordAt yX2_wordAt, Cond.code yX2_wordAt cX2_wordAt 4 (some .int)]
def wsX3_island_r3 : List Cond := [Cond.methodLink RX2 99 yX2_wordOf, Cond.static yX2_wordOf, Cond.code yX2_wordOf cX2_wordOf 1 (some (.object "java/lang/String")), Cond.methodLink RX2 103 yX2_isSpelt, Cond.instanceMethod yX2_isSpelt, Cond.selects RX2 yX2_isSpelt yX2_isSpelt, Cond.code yX2_isSpelt cX2_isSpelt 5 (some .boolean), Cond.methodLink RX2 112 yJ0_length_8abf5, Cond.instanceMethod yJ0_length_8abf5, Cond.selects RJ0 yJ0_length_8abf5 yJ0_length_8abf5, Cond.initialized RJ0, Cond.code yJ0_length_8abf5 cJ0_length_8abf5 1 (some .int), Cond.fieldLink RJ0 9 "java/lang/String" "value" "[B", Cond.methodLink RJ0 335 yJ0_coder_7d493, Cond.instanceMethod yJ0_coder_7d493, Cond.selects RJ0 yJ0_coder_7d493 yJ0_coder_7d493, Cond.code yJ0_coder_7d493 cJ0_coder_7d493 1 (some .byte), Cond.fieldLink RJ0 38 "java/lang/String" "COMPACT_STRINGS" "Z", Cond.fieldLink RJ0 15 "java/lang/String" "coder" "B", Cond.methodLink RX2 118 yJ0_charAt_5068e, Cond.instanceMethod yJ0_charAt_5068e, Cond.selects RJ0 yJ0_charAt_5068e yJ0_charAt_5068e, Cond.code yJ0_charAt_5068e cJ0_charAt_5068e 2 (some .char), Cond.methodLink RJ0 492 yJ0_isLatin1_aae02]
def wsX3_island_r4 : List Cond := [Cond.instanceMethod yJ0_isLatin1_aae02, Cond.selects RJ0 yJ0_isLatin1_aae02 yJ0_isLatin1_aae02, Cond.code yJ0_isLatin1_aae02 cJ0_isLatin1_aae02 1 (some .boolean), Cond.methodLink RJ0 495 yJ1_charAt_3b067, Cond.static yJ1_charAt_3b067, Cond.initialized RJ1, Cond.code yJ1_charAt_3b067 cJ1_charAt_3b067 2 (some .char), Cond.methodLink RJ1 9 yJ0_checkIndex_df160, Cond.static yJ0_checkIndex_df160, Cond.code yJ0_checkIndex_df160 cJ0_checkIndex_df160 2 none, Cond.fieldLink RJ0 1053 "jdk/internal/util/Preconditions" "SIOOBE_FORMATTER" "Ljava/util/function/BiFunction;", Cond.methodLink RJ0 1059 yJ3_checkIndex_8e157, Cond.static yJ3_checkIndex_8e157, Cond.initialized RJ3, Cond.code yJ3_checkIndex_8e157 cJ3_checkIndex_8e157 3 (some .int), Cond.methodLink RJ0 498 yJ2_charAt_3b067, Cond.static yJ2_charAt_3b067, Cond.initialized RJ2, Cond.code yJ2_charAt_3b067 cJ2_charAt_3b067 2 (some .char), Cond.methodLink RJ2 67 yJ2_checkIndex_2214a, Cond.static yJ2_checkIndex_2214a, Cond.code yJ2_checkIndex_2214a cJ2_checkIndex_2214a 2 none, Cond.methodLink RJ2 48 yJ2_length_9d52b, Cond.static yJ2_length_9d52b]
def wsX3_island_r5 : List Cond := [Cond.code yJ2_length_9d52b cJ2_length_9d52b 1 (some .int), Cond.methodLink RJ2 414 yJ0_checkIndex_df160, Cond.methodLink RJ2 71 yJ2_getChar_3b067, Cond.static yJ2_getChar_3b067, Cond.code yJ2_getChar_3b067 cJ2_getChar_3b067 2 (some .char), Cond.fieldLink RJ2 44 "java/lang/StringUTF16" "$assertionsDisabled" "Z", Cond.fieldLink RJ2 59 "java/lang/StringUTF16" "HI_BYTE_SHIFT" "I", Cond.fieldLink RJ2 63 "java/lang/StringUTF16" "LO_BYTE_SHIFT" "I", Cond.methodLink RX2 93 yX2_isDigit, Cond.static yX2_isDigit, Cond.code yX2_isDigit cX2_isDigit 1 (some .boolean), Cond.methodLink RX2 96 yX2_numberAt, Cond.instanceMethod yX2_numberAt, Cond.selects RX2 yX2_numberAt yX2_numberAt, Cond.code yX2_numberAt cX2_numberAt 5 (some .int), Cond.methodLink RX2 107 Lib.Math.min.name, Cond.static Lib.Math.min.name, Cond.initialized "java/lang/Math", Cond.code Lib.Math.min.name Lib.Math.min.code 2 (some .int), Cond.methodLink RX2 38 yX2_tellItem, Cond.instanceMethod yX2_tellItem, Cond.selects RX2 yX2_tellItem yX2_tellItem, Cond.code yX2_tellItem cX2_tellItem 3 (some .boolean), Cond.fieldLink RX2 32 "BeamSeats$Tape" "number" "I"]
def wsX3_island_r6 : List Cond := [Cond.fieldLink RX2 50 "BeamSeats$Island" "bearing" "I", Cond.fieldLink RX2 55 "BeamSeats$Island" "speed" "I", Cond.fieldLink RX2 58 "BeamSeats$Island" "thick" "I", Cond.methodLink RX2 42 yX2_tellThing, Cond.instanceMethod yX2_tellThing, Cond.selects RX2 yX2_tellThing yX2_tellThing, Cond.code yX2_tellThing cX2_tellThing 4 (some .boolean), Cond.fieldLink RX2 61 "BeamSeats$Island" "size" "I", Cond.fieldLink RX2 66 "BeamSeats$Island" "outs" "[I", Cond.fieldLink RX2 73 "BeamSeats$Island" "wets" "[I", Cond.fieldLink RX2 76 "BeamSeats$Island" "goals" "[I", Cond.methodLink RX2 46 yX2_numberBehind, Cond.instanceMethod yX2_numberBehind, Cond.selects RX2 yX2_numberBehind yX2_numberBehind, Cond.code yX2_numberBehind cX2_numberBehind 3 (some .boolean), Cond.static yX3_within, Cond.initialized RX3, Cond.code yX3_within cX3_within 3 (some .boolean), Cond.methodLink RX2 62 yX0_add, Cond.instanceMethod yX0_add, Cond.selects RX0 yX0_add yX0_add, Cond.code yX0_add cX0_add 4 (some .int), Cond.methodLink RX2 69 yX2_tellPart, Cond.instanceMethod yX2_tellPart]
def wsX3_island_r7 : List Cond := [Cond.selects RX2 yX2_tellPart yX2_tellPart, Cond.code yX2_tellPart cX2_tellPart 5 (some .boolean)]
def wsX3_island : List Cond := .code yX3_island cX3_island 2 (some .int) :: ((wsX3_island_r1 ++ (wsX3_island_r2 ++ (wsX3_island_r3 ++ (wsX3_island_r4 ++ (wsX3_island_r5 ++ (wsX3_island_r6 ++ wsX3_island_r7)))))) ++ wsX30 ++ wsX20 ++ wsX00)
def wsX3_sheet : List Cond := .code yX3_sheet cX3_sheet 4 (some .int) :: ([.constant RX3 58 (-1000000001), .constant RX3 180 (-1000000007), .fieldLink RX3 35 "BeamSeats" "sheets" "[LBeamSeats$Sheet;", .fieldLink RX3 185 "BeamSeats$Sheet" "size" "I", .methodLink RX3 44 yX3_within, .static yX3_within, .initialized RX3, .code yX3_within cX3_within 3 (some .boolean), .methodLink RX3 59 yX3_found, .instanceMethod yX3_found, .selects RX3 yX3_found yX3_found, .code yX3_found cX3_found 3 (some .int), .fieldLink RX3 39 "BeamSeats" "findings" "[I", .methodLink RX3 181 yX1_renew, .instanceMethod yX1_renew, .selects RX1 yX1_renew yX1_renew, .initialized RX1, .code yX1_renew cX1_renew 4 none, .fieldLink RX1 9 "BeamSeats$Sheet" "bits" "I", .fieldLink RX1 15 "BeamSeats$Sheet" "size" "I", .fieldLink RX1 18 "BeamSeats$Sheet" "numbers" "[J"] ++ wsX30 ++ wsX10)
def wsX3_findingOfSheet : List Cond := .code yX3_findingOfSheet cX3_findingOfSheet 2 (some .int) :: ([.constant RX3 58 (-1000000001), .fieldLink RX3 35 "BeamSeats" "sheets" "[LBeamSeats$Sheet;", .fieldLink RX3 197 "BeamSeats$Sheet" "bits" "I", .constant RX3 200 (-1000000006), .methodLink RX3 44 yX3_within, .static yX3_within, .initialized RX3, .code yX3_within cX3_within 3 (some .boolean)] ++ wsX30 ++ wsX10)
def wsX3_write_r1 : List Cond := [Cond.fieldLink RX3 35 "BeamSeats" "sheets" "[LBeamSeats$Sheet;", Cond.fieldLink RX3 185 "BeamSeats$Sheet" "size" "I", Cond.constant RX3 58 (-1000000001), Cond.fieldLink RX3 189 "BeamSeats$Sheet" "numbers" "[J", Cond.methodLink RX3 186 yX3_findingOfSheet, Cond.instanceMethod yX3_findingOfSheet, Cond.selects RX3 yX3_findingOfSheet yX3_findingOfSheet, Cond.initialized RX3, Cond.code yX3_findingOfSheet cX3_findingOfSheet 2 (some .int), Cond.fieldLink RX3 197 "BeamSeats$Sheet" "bits" "I", Cond.constant RX3 200 (-1000000006), Cond.methodLink RX3 44 yX3_within, Cond.static yX3_within, Cond.code yX3_within cX3_within 3 (some .boolean), Cond.methodLink RX3 59 yX3_found, Cond.instanceMethod yX3_found, Cond.selects RX3 yX3_found yX3_found, Cond.code yX3_found cX3_found 3 (some .int), Cond.fieldLink RX3 39 "BeamSeats" "findings" "[I", Cond.methodLink RX3 193 yX1_put, Cond.instanceMethod yX1_put, Cond.selects RX1 yX1_put yX1_put, Cond.initialized RX1, Cond.code yX1_put cX1_put 4 none]
def wsX3_write_r2 : List Cond := [Cond.fieldLink RX1 9 "BeamSeats$Sheet" "bits" "I", Cond.fieldLink RX1 18 "BeamSeats$Sheet" "numbers" "[J"]
def wsX3_write : List Cond := .code yX3_write cX3_write 8 (some .long) :: ((wsX3_write_r1 ++ wsX3_write_r2) ++ wsX30 ++ wsX10)
def wsX3_copy_r1 : List Cond := [Cond.constant RX3 58 (-1000000001), Cond.fieldLink RX3 35 "BeamSeats" "sheets" "[LBeamSeats$Sheet;", Cond.fieldLink RX3 197 "BeamSeats$Sheet" "bits" "I", Cond.constant RX3 200 (-1000000006), Cond.constant RX3 136 (-1000000003), Cond.fieldLink RX3 189 "BeamSeats$Sheet" "numbers" "[J", Cond.methodLink RX3 204 arraycopyName, Cond.native arraycopyName, Cond.static arraycopyName, Cond.initialized "java/lang/System", Cond.methodLink RX3 44 yX3_within, Cond.static yX3_within, Cond.initialized RX3, Cond.code yX3_within cX3_within 3 (some .boolean), Cond.methodLink RX3 59 yX3_found, Cond.instanceMethod yX3_found, Cond.selects RX3 yX3_found yX3_found, Cond.code yX3_found cX3_found 3 (some .int), Cond.fieldLink RX3 39 "BeamSeats" "findings" "[I", Cond.methodLink RX3 201 yX1_hasNumbers, Cond.instanceMethod yX1_hasNumbers, Cond.selects RX1 yX1_hasNumbers yX1_hasNumbers, Cond.initialized RX1, Cond.code yX1_hasNumbers cX1_hasNumbers 3 (some .boolean)]
def wsX3_copy_r2 : List Cond := [Cond.fieldLink RX1 15 "BeamSeats$Sheet" "size" "I"]
def wsX3_copy : List Cond := .code yX3_copy cX3_copy 6 (some .int) :: ((wsX3_copy_r1 ++ wsX3_copy_r2) ++ wsX30 ++ wsX10)
def wsX3_lays : List Cond := .code yX3_lays cX3_lays 7 (some .int) :: ([.fieldLink RX3 35 "BeamSeats" "sheets" "[LBeamSeats$Sheet;", .fieldLink RX3 185 "BeamSeats$Sheet" "size" "I", .fieldLink RX3 10 "BeamSeats" "real" "LBeamSeats$Island;", .fieldLink RX3 82 "BeamSeats$Island" "size" "I", .fieldLink RX3 189 "BeamSeats$Sheet" "numbers" "[J", .constantLong RX3 210 (99), .fieldLink RX3 106 "BeamSeats$Island" "wets" "[I", .methodLink RX3 186 yX3_findingOfSheet, .instanceMethod yX3_findingOfSheet, .selects RX3 yX3_findingOfSheet yX3_findingOfSheet, .initialized RX3, .code yX3_findingOfSheet cX3_findingOfSheet 2 (some .int), .constant RX3 58 (-1000000001), .fieldLink RX3 197 "BeamSeats$Sheet" "bits" "I", .constant RX3 200 (-1000000006), .methodLink RX3 44 yX3_within, .static yX3_within, .code yX3_within cX3_within 3 (some .boolean), .methodLink RX3 59 yX3_found, .instanceMethod yX3_found, .selects RX3 yX3_found yX3_found, .code yX3_found cX3_found 3 (some .int), .fieldLink RX3 39 "BeamSeats" "findings" "[I"] ++ wsX30 ++ wsX10 ++ wsX00)
def wsX3_book_r1 : List Cond := [Cond.fieldLink RX3 10 "BeamSeats" "real" "LBeamSeats$Island;", Cond.constant RX3 58 (-1000000001), Cond.fieldLink RX3 16 "BeamSeats" "trial" "LBeamSeats$Island;", Cond.fieldLink RX3 35 "BeamSeats" "sheets" "[LBeamSeats$Sheet;", Cond.fieldLink RX3 185 "BeamSeats$Sheet" "size" "I", Cond.fieldLink RX3 97 "BeamSeats$Island" "places" "[I", Cond.methodLink RX3 186 yX3_findingOfSheet, Cond.instanceMethod yX3_findingOfSheet, Cond.selects RX3 yX3_findingOfSheet yX3_findingOfSheet, Cond.initialized RX3, Cond.code yX3_findingOfSheet cX3_findingOfSheet 2 (some .int), Cond.fieldLink RX3 197 "BeamSeats$Sheet" "bits" "I", Cond.constant RX3 200 (-1000000006), Cond.methodLink RX3 44 yX3_within, Cond.static yX3_within, Cond.code yX3_within cX3_within 3 (some .boolean), Cond.methodLink RX3 90 yX0_has, Cond.instanceMethod yX0_has, Cond.selects RX0 yX0_has yX0_has, Cond.initialized RX0, Cond.code yX0_has cX0_has 2 (some .boolean), Cond.fieldLink RX0 24 "BeamSeats$Island" "size" "I", Cond.methodLink RX3 59 yX3_found, Cond.instanceMethod yX3_found]
def wsX3_book_r2 : List Cond := [Cond.selects RX3 yX3_found yX3_found, Cond.code yX3_found cX3_found 3 (some .int), Cond.fieldLink RX3 39 "BeamSeats" "findings" "[I", Cond.methodLink RX3 151 yX0_becomes, Cond.instanceMethod yX0_becomes, Cond.selects RX0 yX0_becomes yX0_becomes, Cond.code yX0_becomes cX0_becomes 3 none, Cond.fieldLink RX0 9 "BeamSeats$Island" "second" "I", Cond.fieldLink RX0 15 "BeamSeats$Island" "bearing" "I", Cond.fieldLink RX0 18 "BeamSeats$Island" "speed" "I", Cond.fieldLink RX0 21 "BeamSeats$Island" "thick" "I", Cond.fieldLink RX0 27 "BeamSeats$Island" "onSet" "I", Cond.fieldLink RX0 30 "BeamSeats$Island" "lostSet" "I", Cond.fieldLink RX0 33 "BeamSeats$Island" "kinds" "[I", Cond.fieldLink RX0 37 "BeamSeats$Island" "places" "[I", Cond.fieldLink RX0 40 "BeamSeats$Island" "outs" "[I", Cond.fieldLink RX0 43 "BeamSeats$Island" "wets" "[I", Cond.fieldLink RX0 46 "BeamSeats$Island" "goals" "[I", Cond.fieldLink RX0 49 "BeamSeats$Island" "times" "[I", Cond.methodLink RX3 193 yX1_put, Cond.instanceMethod yX1_put, Cond.selects RX1 yX1_put yX1_put, Cond.initialized RX1, Cond.code yX1_put cX1_put 4 none]
def wsX3_book_r3 : List Cond := [Cond.fieldLink RX1 9 "BeamSeats$Sheet" "bits" "I", Cond.fieldLink RX1 18 "BeamSeats$Sheet" "numbers" "[J", Cond.methodLink RX3 148 yX0_goSeconds, Cond.instanceMethod yX0_goSeconds, Cond.selects RX0 yX0_goSeconds yX0_goSeconds, Cond.code yX0_goSeconds cX0_goSeconds 5 none, Cond.methodLink RX0 80 yX0_passBearing, Cond.instanceMethod yX0_passBearing, Cond.selects RX0 yX0_passBearing yX0_passBearing, Cond.code yX0_passBearing cX0_passBearing 4 none, Cond.methodLink RX0 87 yX0_leaveOrBeLost, Cond.instanceMethod yX0_leaveOrBeLost, Cond.selects RX0 yX0_leaveOrBeLost yX0_leaveOrBeLost, Cond.code yX0_leaveOrBeLost cX0_leaveOrBeLost 2 none, Cond.methodLink RX0 99 yX0_getsOff, Cond.instanceMethod yX0_getsOff, Cond.selects RX0 yX0_getsOff yX0_getsOff, Cond.code yX0_getsOff cX0_getsOff 2 (some .boolean), Cond.methodLink RX0 102 yX0_goOff, Cond.instanceMethod yX0_goOff, Cond.selects RX0 yX0_goOff yX0_goOff, Cond.code yX0_goOff cX0_goOff 2 none, Cond.methodLink RX0 90 yX0_getsOn, Cond.instanceMethod yX0_getsOn]
def wsX3_book_r4 : List Cond := [Cond.selects RX0 yX0_getsOn yX0_getsOn, Cond.code yX0_getsOn cX0_getsOn 2 (some .boolean), Cond.methodLink RX0 72 yJ6_bitCount_0f7a4, Cond.static yJ6_bitCount_0f7a4, Cond.initialized RJ6, Cond.code yJ6_bitCount_0f7a4 cJ6_bitCount_0f7a4 1 (some .int), Cond.constant RJ6 265 (1431655765), Cond.constant RJ6 266 (858993459), Cond.constant RJ6 267 (252645135), Cond.methodLink RX0 93 yX0_isBorne, Cond.instanceMethod yX0_isBorne, Cond.selects RX0 yX0_isBorne yX0_isBorne, Cond.code yX0_isBorne cX0_isBorne 2 (some .boolean), Cond.methodLink RX0 66 yX0_weightAt, Cond.instanceMethod yX0_weightAt, Cond.selects RX0 yX0_weightAt yX0_weightAt, Cond.code yX0_weightAt cX0_weightAt 4 (some .int), Cond.methodLink RX0 52 yX0_isOn, Cond.instanceMethod yX0_isOn, Cond.selects RX0 yX0_isOn yX0_isOn, Cond.code yX0_isOn cX0_isOn 2 (some .boolean), Cond.methodLink RX0 56 yX0_weightOf, Cond.instanceMethod yX0_weightOf, Cond.selects RX0 yX0_weightOf yX0_weightOf]
def wsX3_book_r5 : List Cond := [Cond.code yX0_weightOf cX0_weightOf 3 (some .int), Cond.methodLink RX0 69 yX0_bears, Cond.instanceMethod yX0_bears, Cond.selects RX0 yX0_bears yX0_bears, Cond.code yX0_bears cX0_bears 2 (some .int), Cond.methodLink RX0 60 Lib.Math.max.name, Cond.static Lib.Math.max.name, Cond.initialized "java/lang/Math", Cond.code Lib.Math.max.name Lib.Math.max.code 2 (some .int), Cond.methodLink RX0 96 yX0_comeOn, Cond.instanceMethod yX0_comeOn, Cond.selects RX0 yX0_comeOn yX0_comeOn, Cond.code yX0_comeOn cX0_comeOn 2 none, Cond.methodLink RX0 77 Lib.Math.min.name, Cond.static Lib.Math.min.name, Cond.code Lib.Math.min.name Lib.Math.min.code 2 (some .int), Cond.methodLink RX0 84 yX0_dryAndRide, Cond.instanceMethod yX0_dryAndRide, Cond.selects RX0 yX0_dryAndRide yX0_dryAndRide, Cond.code yX0_dryAndRide cX0_dryAndRide 2 none, Cond.methodLink RX0 105 yX0_dries, Cond.instanceMethod yX0_dries, Cond.selects RX0 yX0_dries yX0_dries, Cond.code yX0_dries cX0_dries 3 (some .int)]
def wsX3_book : List Cond := .code yX3_book cX3_book 5 (some .int) :: ((wsX3_book_r1 ++ (wsX3_book_r2 ++ (wsX3_book_r3 ++ (wsX3_book_r4 ++ wsX3_book_r5)))) ++ wsX30 ++ wsX10 ++ wsX00)
def wsX3_goesAsBooked_r1 : List Cond := [Cond.fieldLink RX3 185 "BeamSeats$Sheet" "size" "I", Cond.fieldLink RX3 189 "BeamSeats$Sheet" "numbers" "[J", Cond.fieldLink RX3 16 "BeamSeats" "trial" "LBeamSeats$Island;", Cond.fieldLink RX3 97 "BeamSeats$Island" "places" "[I", Cond.methodLink RX3 148 yX0_goSeconds, Cond.instanceMethod yX0_goSeconds, Cond.selects RX0 yX0_goSeconds yX0_goSeconds, Cond.initialized RX0, Cond.code yX0_goSeconds cX0_goSeconds 5 none, Cond.fieldLink RX0 27 "BeamSeats$Island" "onSet" "I", Cond.fieldLink RX0 18 "BeamSeats$Island" "speed" "I", Cond.fieldLink RX0 15 "BeamSeats$Island" "bearing" "I", Cond.fieldLink RX0 9 "BeamSeats$Island" "second" "I", Cond.methodLink RX0 80 yX0_passBearing, Cond.instanceMethod yX0_passBearing, Cond.selects RX0 yX0_passBearing yX0_passBearing, Cond.code yX0_passBearing cX0_passBearing 4 none, Cond.fieldLink RX0 24 "BeamSeats$Island" "size" "I", Cond.fieldLink RX0 37 "BeamSeats$Island" "places" "[I", Cond.fieldLink RX0 30 "BeamSeats$Island" "lostSet" "I", Cond.methodLink RX0 87 yX0_leaveOrBeLost, Cond.instanceMethod yX0_leaveOrBeLost, Cond.selects RX0 yX0_leaveOrBeLost yX0_leaveOrBeLost, Cond.code yX0_leaveOrBeLost cX0_leaveOrBeLost 2 none]
def wsX3_goesAsBooked_r2 : List Cond := [Cond.methodLink RX0 99 yX0_getsOff, Cond.instanceMethod yX0_getsOff, Cond.selects RX0 yX0_getsOff yX0_getsOff, Cond.code yX0_getsOff cX0_getsOff 2 (some .boolean), Cond.fieldLink RX0 33 "BeamSeats$Island" "kinds" "[I", Cond.fieldLink RX0 43 "BeamSeats$Island" "wets" "[I", Cond.fieldLink RX0 46 "BeamSeats$Island" "goals" "[I", Cond.methodLink RX0 102 yX0_goOff, Cond.instanceMethod yX0_goOff, Cond.selects RX0 yX0_goOff yX0_goOff, Cond.code yX0_goOff cX0_goOff 2 none, Cond.methodLink RX0 90 yX0_getsOn, Cond.instanceMethod yX0_getsOn, Cond.selects RX0 yX0_getsOn yX0_getsOn, Cond.code yX0_getsOn cX0_getsOn 2 (some .boolean), Cond.methodLink RX0 72 yJ6_bitCount_0f7a4, Cond.static yJ6_bitCount_0f7a4, Cond.initialized RJ6, Cond.code yJ6_bitCount_0f7a4 cJ6_bitCount_0f7a4 1 (some .int), Cond.constant RJ6 265 (1431655765), Cond.constant RJ6 266 (858993459), Cond.constant RJ6 267 (252645135), Cond.methodLink RX0 93 yX0_isBorne, Cond.instanceMethod yX0_isBorne]
def wsX3_goesAsBooked_r3 : List Cond := [Cond.selects RX0 yX0_isBorne yX0_isBorne, Cond.code yX0_isBorne cX0_isBorne 2 (some .boolean), Cond.fieldLink RX0 40 "BeamSeats$Island" "outs" "[I", Cond.methodLink RX0 66 yX0_weightAt, Cond.instanceMethod yX0_weightAt, Cond.selects RX0 yX0_weightAt yX0_weightAt, Cond.code yX0_weightAt cX0_weightAt 4 (some .int), Cond.methodLink RX0 52 yX0_isOn, Cond.instanceMethod yX0_isOn, Cond.selects RX0 yX0_isOn yX0_isOn, Cond.code yX0_isOn cX0_isOn 2 (some .boolean), Cond.methodLink RX0 56 yX0_weightOf, Cond.instanceMethod yX0_weightOf, Cond.selects RX0 yX0_weightOf yX0_weightOf, Cond.code yX0_weightOf cX0_weightOf 3 (some .int), Cond.methodLink RX0 69 yX0_bears, Cond.instanceMethod yX0_bears, Cond.selects RX0 yX0_bears yX0_bears, Cond.code yX0_bears cX0_bears 2 (some .int), Cond.fieldLink RX0 21 "BeamSeats$Island" "thick" "I", Cond.methodLink RX0 60 Lib.Math.max.name, Cond.static Lib.Math.max.name, Cond.initialized "java/lang/Math", Cond.code Lib.Math.max.name Lib.Math.max.code 2 (some .int)]
def wsX3_goesAsBooked_r4 : List Cond := [Cond.methodLink RX0 96 yX0_comeOn, Cond.instanceMethod yX0_comeOn, Cond.selects RX0 yX0_comeOn yX0_comeOn, Cond.code yX0_comeOn cX0_comeOn 2 none, Cond.fieldLink RX0 49 "BeamSeats$Island" "times" "[I", Cond.methodLink RX0 77 Lib.Math.min.name, Cond.static Lib.Math.min.name, Cond.code Lib.Math.min.name Lib.Math.min.code 2 (some .int), Cond.methodLink RX0 84 yX0_dryAndRide, Cond.instanceMethod yX0_dryAndRide, Cond.selects RX0 yX0_dryAndRide yX0_dryAndRide, Cond.code yX0_dryAndRide cX0_dryAndRide 2 none, Cond.methodLink RX0 105 yX0_dries, Cond.instanceMethod yX0_dries, Cond.selects RX0 yX0_dries yX0_dries, Cond.code yX0_dries cX0_dries 3 (some .int)]
def wsX3_goesAsBooked : List Cond := .code yX3_goesAsBooked cX3_goesAsBooked 4 (some .boolean) :: ((wsX3_goesAsBooked_r1 ++ (wsX3_goesAsBooked_r2 ++ (wsX3_goesAsBooked_r3 ++ wsX3_goesAsBooked_r4))) ++ wsX10 ++ wsX30 ++ wsX00)
def wsX3_read_r1 : List Cond := [Cond.fieldLink RX3 10 "BeamSeats" "real" "LBeamSeats$Island;", Cond.constant RX3 58 (-1000000001), Cond.fieldLink RX3 16 "BeamSeats" "trial" "LBeamSeats$Island;", Cond.fieldLink RX3 94 "BeamSeats$Island" "kinds" "[I", Cond.fieldLink RX3 52 "BeamSeats$Island" "speed" "I", Cond.fieldLink RX3 35 "BeamSeats" "sheets" "[LBeamSeats$Sheet;", Cond.methodLink RX3 186 yX3_findingOfSheet, Cond.instanceMethod yX3_findingOfSheet, Cond.selects RX3 yX3_findingOfSheet yX3_findingOfSheet, Cond.initialized RX3, Cond.code yX3_findingOfSheet cX3_findingOfSheet 2 (some .int), Cond.fieldLink RX3 197 "BeamSeats$Sheet" "bits" "I", Cond.constant RX3 200 (-1000000006), Cond.methodLink RX3 44 yX3_within, Cond.static yX3_within, Cond.code yX3_within cX3_within 3 (some .boolean), Cond.methodLink RX3 90 yX0_has, Cond.instanceMethod yX0_has, Cond.selects RX0 yX0_has yX0_has, Cond.initialized RX0, Cond.code yX0_has cX0_has 2 (some .boolean), Cond.fieldLink RX0 24 "BeamSeats$Island" "size" "I", Cond.methodLink RX3 59 yX3_found, Cond.instanceMethod yX3_found]
def wsX3_read_r2 : List Cond := [Cond.selects RX3 yX3_found yX3_found, Cond.code yX3_found cX3_found 3 (some .int), Cond.fieldLink RX3 39 "BeamSeats" "findings" "[I", Cond.methodLink RX3 151 yX0_becomes, Cond.instanceMethod yX0_becomes, Cond.selects RX0 yX0_becomes yX0_becomes, Cond.code yX0_becomes cX0_becomes 3 none, Cond.fieldLink RX0 9 "BeamSeats$Island" "second" "I", Cond.fieldLink RX0 15 "BeamSeats$Island" "bearing" "I", Cond.fieldLink RX0 18 "BeamSeats$Island" "speed" "I", Cond.fieldLink RX0 21 "BeamSeats$Island" "thick" "I", Cond.fieldLink RX0 27 "BeamSeats$Island" "onSet" "I", Cond.fieldLink RX0 30 "BeamSeats$Island" "lostSet" "I", Cond.fieldLink RX0 33 "BeamSeats$Island" "kinds" "[I", Cond.fieldLink RX0 37 "BeamSeats$Island" "places" "[I", Cond.fieldLink RX0 40 "BeamSeats$Island" "outs" "[I", Cond.fieldLink RX0 43 "BeamSeats$Island" "wets" "[I", Cond.fieldLink RX0 46 "BeamSeats$Island" "goals" "[I", Cond.fieldLink RX0 49 "BeamSeats$Island" "times" "[I", Cond.methodLink RX3 212 yX3_goesAsBooked, Cond.instanceMethod yX3_goesAsBooked, Cond.selects RX3 yX3_goesAsBooked yX3_goesAsBooked, Cond.code yX3_goesAsBooked cX3_goesAsBooked 4 (some .boolean), Cond.fieldLink RX3 185 "BeamSeats$Sheet" "size" "I"]
def wsX3_read_r3 : List Cond := [Cond.fieldLink RX3 189 "BeamSeats$Sheet" "numbers" "[J", Cond.fieldLink RX3 97 "BeamSeats$Island" "places" "[I", Cond.methodLink RX3 148 yX0_goSeconds, Cond.instanceMethod yX0_goSeconds, Cond.selects RX0 yX0_goSeconds yX0_goSeconds, Cond.code yX0_goSeconds cX0_goSeconds 5 none, Cond.methodLink RX0 80 yX0_passBearing, Cond.instanceMethod yX0_passBearing, Cond.selects RX0 yX0_passBearing yX0_passBearing, Cond.code yX0_passBearing cX0_passBearing 4 none, Cond.methodLink RX0 87 yX0_leaveOrBeLost, Cond.instanceMethod yX0_leaveOrBeLost, Cond.selects RX0 yX0_leaveOrBeLost yX0_leaveOrBeLost, Cond.code yX0_leaveOrBeLost cX0_leaveOrBeLost 2 none, Cond.methodLink RX0 99 yX0_getsOff, Cond.instanceMethod yX0_getsOff, Cond.selects RX0 yX0_getsOff yX0_getsOff, Cond.code yX0_getsOff cX0_getsOff 2 (some .boolean), Cond.methodLink RX0 102 yX0_goOff, Cond.instanceMethod yX0_goOff, Cond.selects RX0 yX0_goOff yX0_goOff, Cond.code yX0_goOff cX0_goOff 2 none, Cond.methodLink RX0 90 yX0_getsOn, Cond.instanceMethod yX0_getsOn]
def wsX3_read_r4 : List Cond := [Cond.selects RX0 yX0_getsOn yX0_getsOn, Cond.code yX0_getsOn cX0_getsOn 2 (some .boolean), Cond.methodLink RX0 72 yJ6_bitCount_0f7a4, Cond.static yJ6_bitCount_0f7a4, Cond.initialized RJ6, Cond.code yJ6_bitCount_0f7a4 cJ6_bitCount_0f7a4 1 (some .int), Cond.constant RJ6 265 (1431655765), Cond.constant RJ6 266 (858993459), Cond.constant RJ6 267 (252645135), Cond.methodLink RX0 93 yX0_isBorne, Cond.instanceMethod yX0_isBorne, Cond.selects RX0 yX0_isBorne yX0_isBorne, Cond.code yX0_isBorne cX0_isBorne 2 (some .boolean), Cond.methodLink RX0 66 yX0_weightAt, Cond.instanceMethod yX0_weightAt, Cond.selects RX0 yX0_weightAt yX0_weightAt, Cond.code yX0_weightAt cX0_weightAt 4 (some .int), Cond.methodLink RX0 52 yX0_isOn, Cond.instanceMethod yX0_isOn, Cond.selects RX0 yX0_isOn yX0_isOn, Cond.code yX0_isOn cX0_isOn 2 (some .boolean), Cond.methodLink RX0 56 yX0_weightOf, Cond.instanceMethod yX0_weightOf, Cond.selects RX0 yX0_weightOf yX0_weightOf]
def wsX3_read_r5 : List Cond := [Cond.code yX0_weightOf cX0_weightOf 3 (some .int), Cond.methodLink RX0 69 yX0_bears, Cond.instanceMethod yX0_bears, Cond.selects RX0 yX0_bears yX0_bears, Cond.code yX0_bears cX0_bears 2 (some .int), Cond.methodLink RX0 60 Lib.Math.max.name, Cond.static Lib.Math.max.name, Cond.initialized "java/lang/Math", Cond.code Lib.Math.max.name Lib.Math.max.code 2 (some .int), Cond.methodLink RX0 96 yX0_comeOn, Cond.instanceMethod yX0_comeOn, Cond.selects RX0 yX0_comeOn yX0_comeOn, Cond.code yX0_comeOn cX0_comeOn 2 none, Cond.methodLink RX0 77 Lib.Math.min.name, Cond.static Lib.Math.min.name, Cond.code Lib.Math.min.name Lib.Math.min.code 2 (some .int), Cond.methodLink RX0 84 yX0_dryAndRide, Cond.instanceMethod yX0_dryAndRide, Cond.selects RX0 yX0_dryAndRide yX0_dryAndRide, Cond.code yX0_dryAndRide cX0_dryAndRide 2 none, Cond.methodLink RX0 105 yX0_dries, Cond.instanceMethod yX0_dries, Cond.selects RX0 yX0_dries yX0_dries, Cond.code yX0_dries cX0_dries 3 (some .int)]
def wsX3_read : List Cond := .code yX3_read cX3_read 7 (some .int) :: ((wsX3_read_r1 ++ (wsX3_read_r2 ++ (wsX3_read_r3 ++ (wsX3_read_r4 ++ wsX3_read_r5)))) ++ wsX30 ++ wsX00 ++ wsX10)
def wsX3_image : List Cond := .code yX3_image cX3_image 1 (some .int) :: ([.fieldLink RX3 19 "BeamSeats" "kept" "LBeamSeats$Island;", .fieldLink RX3 10 "BeamSeats" "real" "LBeamSeats$Island;", .fieldLink RX3 22 "BeamSeats" "isKept" "Z", .methodLink RX3 151 yX0_becomes, .instanceMethod yX0_becomes, .selects RX0 yX0_becomes yX0_becomes, .initialized RX0, .code yX0_becomes cX0_becomes 3 none, .fieldLink RX0 9 "BeamSeats$Island" "second" "I", .fieldLink RX0 15 "BeamSeats$Island" "bearing" "I", .fieldLink RX0 18 "BeamSeats$Island" "speed" "I", .fieldLink RX0 21 "BeamSeats$Island" "thick" "I", .fieldLink RX0 24 "BeamSeats$Island" "size" "I", .fieldLink RX0 27 "BeamSeats$Island" "onSet" "I", .fieldLink RX0 30 "BeamSeats$Island" "lostSet" "I", .fieldLink RX0 33 "BeamSeats$Island" "kinds" "[I", .fieldLink RX0 37 "BeamSeats$Island" "places" "[I", .fieldLink RX0 40 "BeamSeats$Island" "outs" "[I", .fieldLink RX0 43 "BeamSeats$Island" "wets" "[I", .fieldLink RX0 46 "BeamSeats$Island" "goals" "[I", .fieldLink RX0 49 "BeamSeats$Island" "times" "[I"] ++ wsX30 ++ wsX00)
def wsX3_undo_r1 : List Cond := [Cond.fieldLink RX3 22 "BeamSeats" "isKept" "Z", Cond.constant RX3 167 (-1000000004), Cond.fieldLink RX3 10 "BeamSeats" "real" "LBeamSeats$Island;", Cond.fieldLink RX3 19 "BeamSeats" "kept" "LBeamSeats$Island;", Cond.fieldLink RX3 82 "BeamSeats$Island" "size" "I", Cond.methodLink RX3 59 yX3_found, Cond.instanceMethod yX3_found, Cond.selects RX3 yX3_found yX3_found, Cond.initialized RX3, Cond.code yX3_found cX3_found 3 (some .int), Cond.constant RX3 58 (-1000000001), Cond.fieldLink RX3 39 "BeamSeats" "findings" "[I", Cond.methodLink RX3 44 yX3_within, Cond.static yX3_within, Cond.code yX3_within cX3_within 3 (some .boolean), Cond.methodLink RX3 151 yX0_becomes, Cond.instanceMethod yX0_becomes, Cond.selects RX0 yX0_becomes yX0_becomes, Cond.initialized RX0, Cond.code yX0_becomes cX0_becomes 3 none, Cond.fieldLink RX0 9 "BeamSeats$Island" "second" "I", Cond.fieldLink RX0 15 "BeamSeats$Island" "bearing" "I", Cond.fieldLink RX0 18 "BeamSeats$Island" "speed" "I", Cond.fieldLink RX0 21 "BeamSeats$Island" "thick" "I"]
def wsX3_undo_r2 : List Cond := [Cond.fieldLink RX0 24 "BeamSeats$Island" "size" "I", Cond.fieldLink RX0 27 "BeamSeats$Island" "onSet" "I", Cond.fieldLink RX0 30 "BeamSeats$Island" "lostSet" "I", Cond.fieldLink RX0 33 "BeamSeats$Island" "kinds" "[I", Cond.fieldLink RX0 37 "BeamSeats$Island" "places" "[I", Cond.fieldLink RX0 40 "BeamSeats$Island" "outs" "[I", Cond.fieldLink RX0 43 "BeamSeats$Island" "wets" "[I", Cond.fieldLink RX0 46 "BeamSeats$Island" "goals" "[I", Cond.fieldLink RX0 49 "BeamSeats$Island" "times" "[I"]
def wsX3_undo : List Cond := .code yX3_undo cX3_undo 1 (some .int) :: ((wsX3_undo_r1 ++ wsX3_undo_r2) ++ wsX30 ++ wsX00)
def wsX3_tear : List Cond := .code yX3_tear cX3_tear 2 (some .int) :: ([.fieldLink RX3 22 "BeamSeats" "isKept" "Z"] ++ wsX30)
def wsX3_sum : List Cond := .code yX3_sum cX3_sum 4 (some .int) :: ([])
def wsX3_count : List Cond := .code yX3_count cX3_count 2 (some .int) :: ([.fieldLink RX3 10 "BeamSeats" "real" "LBeamSeats$Island;", .fieldLink RX3 82 "BeamSeats$Island" "size" "I", .fieldLink RX3 29 "BeamSeats" "tape" "LBeamSeats$Tape;", .fieldLink RX3 171 "BeamSeats$Tape" "size" "I", .fieldLink RX3 106 "BeamSeats$Island" "wets" "[I", .fieldLink RX3 115 "BeamSeats$Island" "times" "[I", .constant RX3 58 (-1000000001), .methodLink RX3 216 yX3_sum, .static yX3_sum, .initialized RX3, .code yX3_sum cX3_sum 4 (some .int), .methodLink RX3 59 yX3_found, .instanceMethod yX3_found, .selects RX3 yX3_found yX3_found, .code yX3_found cX3_found 3 (some .int), .fieldLink RX3 39 "BeamSeats" "findings" "[I", .methodLink RX3 44 yX3_within, .static yX3_within, .code yX3_within cX3_within 3 (some .boolean)] ++ wsX30 ++ wsX00 ++ wsX20)
def wsX3_status : List Cond := .code yX3_status cX3_status 2 (some .int) :: ([.constant RX3 58 (-1000000001), .fieldLink RX3 39 "BeamSeats" "findings" "[I", .methodLink RX3 44 yX3_within, .static yX3_within, .initialized RX3, .code yX3_within cX3_within 3 (some .boolean), .methodLink RX3 59 yX3_found, .instanceMethod yX3_found, .selects RX3 yX3_found yX3_found, .code yX3_found cX3_found 3 (some .int), .methodLink RX3 216 yX3_sum, .static yX3_sum, .code yX3_sum cX3_sum 4 (some .int)] ++ wsX30)
def wsX4_init : List Cond := .code yX4_init cX4_init 1 none :: ([.methodLink RX4 3 objectInit, .instanceMethod objectInit, .code objectInit ⟨#[0xb1]⟩ 1 none, .arrayClass .int, .fieldLink RX4 9 "BeamSeatsModel" "m" "[I", .fieldLink RX4 13 "BeamSeatsModel" "kept" "[I", .fieldLink RX4 16 "BeamSeatsModel" "was" "[I", .fieldLink RX4 19 "BeamSeatsModel" "found" "[I", .fieldLink RX4 22 "BeamSeatsModel" "tape" "[I", .fieldLink RX4 25 "BeamSeatsModel" "bitsOf" "[I", .fieldLink RX4 28 "BeamSeatsModel" "sizeOf" "[I", .arrayClass .long, .fieldLink RX4 31 "BeamSeatsModel" "cells" "[J"] ++ wsX40)
def wsX4_finds : List Cond := .code yX4_finds cX4_finds 2 (some .int) :: ([.fieldLink RX4 19 "BeamSeatsModel" "found" "[I", .constant RX4 35 (-1000000001)] ++ wsX40)
def wsX4_orNone : List Cond := .code yX4_orNone cX4_orNone 2 (some .int) :: ([.constant RX4 36 (-1000000004), .methodLink RX4 37 yX4_finds, .instanceMethod yX4_finds, .selects RX4 yX4_finds yX4_finds, .initialized RX4, .code yX4_finds cX4_finds 2 (some .int), .fieldLink RX4 19 "BeamSeatsModel" "found" "[I", .constant RX4 35 (-1000000001)] ++ wsX40)
def wsX4_in : List Cond := .code yX4_in cX4_in 4 (some .boolean) :: ([])
def wsX4_held : List Cond := .code yX4_held cX4_held 3 (some .int) :: ([])
def wsX4_copyAll : List Cond := .code yX4_copyAll cX4_copyAll 3 none :: ([])
def wsX4_bits : List Cond := .code yX4_bits cX4_bits 3 (some .int) :: ([])
def wsX4_becomes : List Cond := .code yX4_becomes cX4_becomes 4 (some .int) :: ([.fieldLink RX4 9 "BeamSeatsModel" "m" "[I"] ++ wsX40)
def wsX4_isThing : List Cond := .code yX4_isThing cX4_isThing 2 (some .boolean) :: ([.fieldLink RX4 9 "BeamSeatsModel" "m" "[I", .methodLink RX4 41 yX4_in, .static yX4_in, .initialized RX4, .code yX4_in cX4_in 4 (some .boolean)] ++ wsX40)
def wsX4_isBearing : List Cond := .code yX4_isBearing cX4_isBearing 1 (some .boolean) :: ([.methodLink RX4 41 yX4_in, .static yX4_in, .initialized RX4, .code yX4_in cX4_in 4 (some .boolean)])
def wsX4_it : List Cond := .code yX4_it cX4_it 3 (some .int) :: ([.fieldLink RX4 9 "BeamSeatsModel" "m" "[I"] ++ wsX40)
def wsX4_put : List Cond := .code yX4_put cX4_put 4 none :: ([.fieldLink RX4 9 "BeamSeatsModel" "m" "[I"] ++ wsX40)
def wsX4_isOn : List Cond := .code yX4_isOn cX4_isOn 2 (some .boolean) :: ([.methodLink RX4 45 yX4_it, .instanceMethod yX4_it, .selects RX4 yX4_it yX4_it, .initialized RX4, .code yX4_it cX4_it 3 (some .int), .fieldLink RX4 9 "BeamSeatsModel" "m" "[I"] ++ wsX40)
def wsX4_setOf : List Cond := .code yX4_setOf cX4_setOf 4 (some .int) :: ([.fieldLink RX4 9 "BeamSeatsModel" "m" "[I", .methodLink RX4 45 yX4_it, .instanceMethod yX4_it, .selects RX4 yX4_it yX4_it, .initialized RX4, .code yX4_it cX4_it 3 (some .int)] ++ wsX40)
def wsX4_others : List Cond := .code yX4_others cX4_others 2 (some .int) :: ([.methodLink RX4 49 yX4_setOf, .instanceMethod yX4_setOf, .selects RX4 yX4_setOf yX4_setOf, .initialized RX4, .code yX4_setOf cX4_setOf 4 (some .int), .fieldLink RX4 9 "BeamSeatsModel" "m" "[I", .methodLink RX4 45 yX4_it, .instanceMethod yX4_it, .selects RX4 yX4_it yX4_it, .code yX4_it cX4_it 3 (some .int), .methodLink RX4 52 yX4_bits, .static yX4_bits, .code yX4_bits cX4_bits 3 (some .int)] ++ wsX40)
def wsX4_weighs : List Cond := .code yX4_weighs cX4_weighs 3 (some .int) :: ([.methodLink RX4 45 yX4_it, .instanceMethod yX4_it, .selects RX4 yX4_it yX4_it, .initialized RX4, .code yX4_it cX4_it 3 (some .int), .fieldLink RX4 9 "BeamSeatsModel" "m" "[I"] ++ wsX40)
def wsX4_dries : List Cond := .code yX4_dries cX4_dries 3 (some .int) :: ([.fieldLink RX4 9 "BeamSeatsModel" "m" "[I", .methodLink RX4 45 yX4_it, .instanceMethod yX4_it, .selects RX4 yX4_it yX4_it, .initialized RX4, .code yX4_it cX4_it 3 (some .int)] ++ wsX40)
def wsX4_getsOn : List Cond := .code yX4_getsOn cX4_getsOn 2 (some .boolean) :: ([.fieldLink RX4 9 "BeamSeatsModel" "m" "[I", .methodLink RX4 45 yX4_it, .instanceMethod yX4_it, .selects RX4 yX4_it yX4_it, .initialized RX4, .code yX4_it cX4_it 3 (some .int), .methodLink RX4 55 yX4_others, .instanceMethod yX4_others, .selects RX4 yX4_others yX4_others, .code yX4_others cX4_others 2 (some .int), .methodLink RX4 49 yX4_setOf, .instanceMethod yX4_setOf, .selects RX4 yX4_setOf yX4_setOf, .code yX4_setOf cX4_setOf 4 (some .int), .methodLink RX4 52 yX4_bits, .static yX4_bits, .code yX4_bits cX4_bits 3 (some .int)] ++ wsX40)
def wsX4_getsOff : List Cond := .code yX4_getsOff cX4_getsOff 3 (some .boolean) :: ([.methodLink RX4 45 yX4_it, .instanceMethod yX4_it, .selects RX4 yX4_it yX4_it, .initialized RX4, .code yX4_it cX4_it 3 (some .int), .fieldLink RX4 9 "BeamSeatsModel" "m" "[I", .methodLink RX4 55 yX4_others, .instanceMethod yX4_others, .selects RX4 yX4_others yX4_others, .code yX4_others cX4_others 2 (some .int), .methodLink RX4 49 yX4_setOf, .instanceMethod yX4_setOf, .selects RX4 yX4_setOf yX4_setOf, .code yX4_setOf cX4_setOf 4 (some .int), .methodLink RX4 52 yX4_bits, .static yX4_bits, .code yX4_bits cX4_bits 3 (some .int)] ++ wsX40)
def wsX4_bears : List Cond := .code yX4_bears cX4_bears 2 (some .int) :: ([.fieldLink RX4 9 "BeamSeatsModel" "m" "[I", .methodLink RX4 58 yX4_held, .static yX4_held, .initialized RX4, .code yX4_held cX4_held 3 (some .int)] ++ wsX40)
def wsX4_loadAt : List Cond := .code yX4_loadAt cX4_loadAt 4 (some .int) :: ([.fieldLink RX4 9 "BeamSeatsModel" "m" "[I", .methodLink RX4 62 yX4_isOn, .instanceMethod yX4_isOn, .selects RX4 yX4_isOn yX4_isOn, .initialized RX4, .code yX4_isOn cX4_isOn 2 (some .boolean), .methodLink RX4 45 yX4_it, .instanceMethod yX4_it, .selects RX4 yX4_it yX4_it, .code yX4_it cX4_it 3 (some .int), .methodLink RX4 66 yX4_weighs, .instanceMethod yX4_weighs, .selects RX4 yX4_weighs yX4_weighs, .code yX4_weighs cX4_weighs 3 (some .int)] ++ wsX40)
def wsX4_isBorne_r1 : List Cond := [Cond.methodLink RX4 45 yX4_it, Cond.instanceMethod yX4_it, Cond.selects RX4 yX4_it yX4_it, Cond.initialized RX4, Cond.code yX4_it cX4_it 3 (some .int), Cond.fieldLink RX4 9 "BeamSeatsModel" "m" "[I", Cond.methodLink RX4 69 yX4_loadAt, Cond.instanceMethod yX4_loadAt, Cond.selects RX4 yX4_loadAt yX4_loadAt, Cond.code yX4_loadAt cX4_loadAt 4 (some .int), Cond.methodLink RX4 62 yX4_isOn, Cond.instanceMethod yX4_isOn, Cond.selects RX4 yX4_isOn yX4_isOn, Cond.code yX4_isOn cX4_isOn 2 (some .boolean), Cond.methodLink RX4 66 yX4_weighs, Cond.instanceMethod yX4_weighs, Cond.selects RX4 yX4_weighs yX4_weighs, Cond.code yX4_weighs cX4_weighs 3 (some .int), Cond.methodLink RX4 72 yX4_bears, Cond.instanceMethod yX4_bears, Cond.selects RX4 yX4_bears yX4_bears, Cond.code yX4_bears cX4_bears 2 (some .int), Cond.methodLink RX4 58 yX4_held, Cond.static yX4_held]
def wsX4_isBorne_r2 : List Cond := [Cond.code yX4_held cX4_held 3 (some .int)]
def wsX4_isBorne : List Cond := .code yX4_isBorne cX4_isBorne 2 (some .boolean) :: ((wsX4_isBorne_r1 ++ wsX4_isBorne_r2) ++ wsX40)
def wsX4_beam : List Cond := .code yX4_beam cX4_beam 4 (some .int) :: ([.constant RX4 35 (-1000000001), .methodLink RX4 41 yX4_in, .static yX4_in, .initialized RX4, .code yX4_in cX4_in 4 (some .boolean), .methodLink RX4 75 yX4_becomes, .instanceMethod yX4_becomes, .selects RX4 yX4_becomes yX4_becomes, .code yX4_becomes cX4_becomes 4 (some .int), .fieldLink RX4 9 "BeamSeatsModel" "m" "[I", .methodLink RX4 37 yX4_finds, .instanceMethod yX4_finds, .selects RX4 yX4_finds yX4_finds, .code yX4_finds cX4_finds 2 (some .int), .fieldLink RX4 19 "BeamSeatsModel" "found" "[I"] ++ wsX40)
def wsX4_allWeighs : List Cond := .code yX4_allWeighs cX4_allWeighs 3 (some .int) :: ([.fieldLink RX4 9 "BeamSeatsModel" "m" "[I", .methodLink RX4 62 yX4_isOn, .instanceMethod yX4_isOn, .selects RX4 yX4_isOn yX4_isOn, .initialized RX4, .code yX4_isOn cX4_isOn 2 (some .boolean), .methodLink RX4 45 yX4_it, .instanceMethod yX4_it, .selects RX4 yX4_it yX4_it, .code yX4_it cX4_it 3 (some .int), .methodLink RX4 66 yX4_weighs, .instanceMethod yX4_weighs, .selects RX4 yX4_weighs yX4_weighs, .code yX4_weighs cX4_weighs 3 (some .int)] ++ wsX40)
def wsX4_now_r1 : List Cond := [Cond.fieldLink RX4 9 "BeamSeatsModel" "m" "[I", Cond.constant RX4 35 (-1000000001), Cond.methodLink RX4 49 yX4_setOf, Cond.instanceMethod yX4_setOf, Cond.selects RX4 yX4_setOf yX4_setOf, Cond.initialized RX4, Cond.code yX4_setOf cX4_setOf 4 (some .int), Cond.methodLink RX4 45 yX4_it, Cond.instanceMethod yX4_it, Cond.selects RX4 yX4_it yX4_it, Cond.code yX4_it cX4_it 3 (some .int), Cond.methodLink RX4 78 yX4_allWeighs, Cond.instanceMethod yX4_allWeighs, Cond.selects RX4 yX4_allWeighs yX4_allWeighs, Cond.code yX4_allWeighs cX4_allWeighs 3 (some .int), Cond.methodLink RX4 62 yX4_isOn, Cond.instanceMethod yX4_isOn, Cond.selects RX4 yX4_isOn yX4_isOn, Cond.code yX4_isOn cX4_isOn 2 (some .boolean), Cond.methodLink RX4 66 yX4_weighs, Cond.instanceMethod yX4_weighs, Cond.selects RX4 yX4_weighs yX4_weighs, Cond.code yX4_weighs cX4_weighs 3 (some .int), Cond.methodLink RX4 37 yX4_finds]
def wsX4_now_r2 : List Cond := [Cond.instanceMethod yX4_finds, Cond.selects RX4 yX4_finds yX4_finds, Cond.code yX4_finds cX4_finds 2 (some .int), Cond.fieldLink RX4 19 "BeamSeatsModel" "found" "[I"]
def wsX4_now : List Cond := .code yX4_now cX4_now 2 (some .int) :: ((wsX4_now_r1 ++ wsX4_now_r2) ++ wsX40)
def wsX4_load_r1 : List Cond := [Cond.constant RX4 35 (-1000000001), Cond.methodLink RX4 41 yX4_in, Cond.static yX4_in, Cond.initialized RX4, Cond.code yX4_in cX4_in 4 (some .boolean), Cond.methodLink RX4 72 yX4_bears, Cond.instanceMethod yX4_bears, Cond.selects RX4 yX4_bears yX4_bears, Cond.code yX4_bears cX4_bears 2 (some .int), Cond.fieldLink RX4 9 "BeamSeatsModel" "m" "[I", Cond.methodLink RX4 58 yX4_held, Cond.static yX4_held, Cond.code yX4_held cX4_held 3 (some .int), Cond.methodLink RX4 69 yX4_loadAt, Cond.instanceMethod yX4_loadAt, Cond.selects RX4 yX4_loadAt yX4_loadAt, Cond.code yX4_loadAt cX4_loadAt 4 (some .int), Cond.methodLink RX4 62 yX4_isOn, Cond.instanceMethod yX4_isOn, Cond.selects RX4 yX4_isOn yX4_isOn, Cond.code yX4_isOn cX4_isOn 2 (some .boolean), Cond.methodLink RX4 45 yX4_it, Cond.instanceMethod yX4_it, Cond.selects RX4 yX4_it yX4_it]
def wsX4_load_r2 : List Cond := [Cond.code yX4_it cX4_it 3 (some .int), Cond.methodLink RX4 66 yX4_weighs, Cond.instanceMethod yX4_weighs, Cond.selects RX4 yX4_weighs yX4_weighs, Cond.code yX4_weighs cX4_weighs 3 (some .int), Cond.methodLink RX4 37 yX4_finds, Cond.instanceMethod yX4_finds, Cond.selects RX4 yX4_finds yX4_finds, Cond.code yX4_finds cX4_finds 2 (some .int), Cond.fieldLink RX4 19 "BeamSeatsModel" "found" "[I"]
def wsX4_load : List Cond := .code yX4_load cX4_load 3 (some .int) :: ((wsX4_load_r1 ++ wsX4_load_r2) ++ wsX40)
def wsX4_comesAs : List Cond := .code yX4_comesAs cX4_comesAs 7 (some .int) :: ([.fieldLink RX4 9 "BeamSeatsModel" "m" "[I", .methodLink RX4 82 yX4_put, .instanceMethod yX4_put, .selects RX4 yX4_put yX4_put, .initialized RX4, .code yX4_put cX4_put 4 none] ++ wsX40)
def wsX4_thing : List Cond := .code yX4_thing cX4_thing 3 (some .int) :: ([.constant RX4 35 (-1000000001), .fieldLink RX4 9 "BeamSeatsModel" "m" "[I", .constant RX4 89 (-1000000002), .methodLink RX4 41 yX4_in, .static yX4_in, .initialized RX4, .code yX4_in cX4_in 4 (some .boolean), .methodLink RX4 86 yX4_isBearing, .static yX4_isBearing, .code yX4_isBearing cX4_isBearing 1 (some .boolean), .methodLink RX4 37 yX4_finds, .instanceMethod yX4_finds, .selects RX4 yX4_finds yX4_finds, .code yX4_finds cX4_finds 2 (some .int), .fieldLink RX4 19 "BeamSeatsModel" "found" "[I", .methodLink RX4 90 yX4_comesAs, .instanceMethod yX4_comesAs, .selects RX4 yX4_comesAs yX4_comesAs, .code yX4_comesAs cX4_comesAs 7 (some .int), .methodLink RX4 82 yX4_put, .instanceMethod yX4_put, .selects RX4 yX4_put yX4_put, .code yX4_put cX4_put 4 none] ++ wsX40)
def wsX4_of_r1 : List Cond := [Cond.constant RX4 35 (-1000000001), Cond.methodLink RX4 94 yX4_isThing, Cond.instanceMethod yX4_isThing, Cond.selects RX4 yX4_isThing yX4_isThing, Cond.initialized RX4, Cond.code yX4_isThing cX4_isThing 2 (some .boolean), Cond.fieldLink RX4 9 "BeamSeatsModel" "m" "[I", Cond.methodLink RX4 41 yX4_in, Cond.static yX4_in, Cond.code yX4_in cX4_in 4 (some .boolean), Cond.methodLink RX4 37 yX4_finds, Cond.instanceMethod yX4_finds, Cond.selects RX4 yX4_finds yX4_finds, Cond.code yX4_finds cX4_finds 2 (some .int), Cond.fieldLink RX4 19 "BeamSeatsModel" "found" "[I", Cond.methodLink RX4 45 yX4_it, Cond.instanceMethod yX4_it, Cond.selects RX4 yX4_it yX4_it, Cond.code yX4_it cX4_it 3 (some .int), Cond.methodLink RX4 66 yX4_weighs, Cond.instanceMethod yX4_weighs, Cond.selects RX4 yX4_weighs yX4_weighs, Cond.code yX4_weighs cX4_weighs 3 (some .int), Cond.methodLink RX4 97 yX4_dries]
def wsX4_of_r2 : List Cond := [Cond.instanceMethod yX4_dries, Cond.selects RX4 yX4_dries yX4_dries, Cond.code yX4_dries cX4_dries 3 (some .int)]
def wsX4_of : List Cond := .code yX4_of cX4_of 3 (some .int) :: ((wsX4_of_r1 ++ wsX4_of_r2) ++ wsX40)
def wsX4_mostOf : List Cond := .code yX4_mostOf cX4_mostOf 1 (some .int) :: ([])
def wsX4_set : List Cond := .code yX4_set cX4_set 4 (some .int) :: ([.constant RX4 35 (-1000000001), .methodLink RX4 94 yX4_isThing, .instanceMethod yX4_isThing, .selects RX4 yX4_isThing yX4_isThing, .initialized RX4, .code yX4_isThing cX4_isThing 2 (some .boolean), .fieldLink RX4 9 "BeamSeatsModel" "m" "[I", .methodLink RX4 41 yX4_in, .static yX4_in, .code yX4_in cX4_in 4 (some .boolean), .methodLink RX4 100 yX4_mostOf, .static yX4_mostOf, .code yX4_mostOf cX4_mostOf 1 (some .int), .methodLink RX4 75 yX4_becomes, .instanceMethod yX4_becomes, .selects RX4 yX4_becomes yX4_becomes, .code yX4_becomes cX4_becomes 4 (some .int), .methodLink RX4 37 yX4_finds, .instanceMethod yX4_finds, .selects RX4 yX4_finds yX4_finds, .code yX4_finds cX4_finds 2 (some .int), .fieldLink RX4 19 "BeamSeatsModel" "found" "[I"] ++ wsX40)
def wsX4_carry_r1 : List Cond := [Cond.constant RX4 35 (-1000000001), Cond.constant RX4 103 (-1000000005), Cond.methodLink RX4 94 yX4_isThing, Cond.instanceMethod yX4_isThing, Cond.selects RX4 yX4_isThing yX4_isThing, Cond.initialized RX4, Cond.code yX4_isThing cX4_isThing 2 (some .boolean), Cond.fieldLink RX4 9 "BeamSeatsModel" "m" "[I", Cond.methodLink RX4 41 yX4_in, Cond.static yX4_in, Cond.code yX4_in cX4_in 4 (some .boolean), Cond.methodLink RX4 86 yX4_isBearing, Cond.static yX4_isBearing, Cond.code yX4_isBearing cX4_isBearing 1 (some .boolean), Cond.methodLink RX4 37 yX4_finds, Cond.instanceMethod yX4_finds, Cond.selects RX4 yX4_finds yX4_finds, Cond.code yX4_finds cX4_finds 2 (some .int), Cond.fieldLink RX4 19 "BeamSeatsModel" "found" "[I", Cond.methodLink RX4 62 yX4_isOn, Cond.instanceMethod yX4_isOn, Cond.selects RX4 yX4_isOn yX4_isOn, Cond.code yX4_isOn cX4_isOn 2 (some .boolean), Cond.methodLink RX4 45 yX4_it]
def wsX4_carry_r2 : List Cond := [Cond.instanceMethod yX4_it, Cond.selects RX4 yX4_it yX4_it, Cond.code yX4_it cX4_it 3 (some .int), Cond.methodLink RX4 82 yX4_put, Cond.instanceMethod yX4_put, Cond.selects RX4 yX4_put yX4_put, Cond.code yX4_put cX4_put 4 none, Cond.methodLink RX4 75 yX4_becomes, Cond.instanceMethod yX4_becomes, Cond.selects RX4 yX4_becomes yX4_becomes, Cond.code yX4_becomes cX4_becomes 4 (some .int)]
def wsX4_carry : List Cond := .code yX4_carry cX4_carry 3 (some .int) :: ((wsX4_carry_r1 ++ wsX4_carry_r2) ++ wsX40)
def wsX4_turn : List Cond := .code yX4_turn cX4_turn 3 (some .int) :: ([.constant RX4 35 (-1000000001), .methodLink RX4 94 yX4_isThing, .instanceMethod yX4_isThing, .selects RX4 yX4_isThing yX4_isThing, .initialized RX4, .code yX4_isThing cX4_isThing 2 (some .boolean), .fieldLink RX4 9 "BeamSeatsModel" "m" "[I", .methodLink RX4 41 yX4_in, .static yX4_in, .code yX4_in cX4_in 4 (some .boolean), .methodLink RX4 75 yX4_becomes, .instanceMethod yX4_becomes, .selects RX4 yX4_becomes yX4_becomes, .code yX4_becomes cX4_becomes 4 (some .int), .methodLink RX4 37 yX4_finds, .instanceMethod yX4_finds, .selects RX4 yX4_finds yX4_finds, .code yX4_finds cX4_finds 2 (some .int), .fieldLink RX4 19 "BeamSeatsModel" "found" "[I"] ++ wsX40)
def wsX4_as : List Cond := .code yX4_as cX4_as 5 (some .int) :: ([.constant RX4 35 (-1000000001), .constant RX4 104 (-1000000003), .methodLink RX4 94 yX4_isThing, .instanceMethod yX4_isThing, .selects RX4 yX4_isThing yX4_isThing, .initialized RX4, .code yX4_isThing cX4_isThing 2 (some .boolean), .fieldLink RX4 9 "BeamSeatsModel" "m" "[I", .methodLink RX4 41 yX4_in, .static yX4_in, .code yX4_in cX4_in 4 (some .boolean), .methodLink RX4 37 yX4_finds, .instanceMethod yX4_finds, .selects RX4 yX4_finds yX4_finds, .code yX4_finds cX4_finds 2 (some .int), .fieldLink RX4 19 "BeamSeatsModel" "found" "[I", .methodLink RX4 45 yX4_it, .instanceMethod yX4_it, .selects RX4 yX4_it yX4_it, .code yX4_it cX4_it 3 (some .int)] ++ wsX40)
def wsX4_comesOn : List Cond := .code yX4_comesOn cX4_comesOn 2 none :: ([.methodLink RX4 82 yX4_put, .instanceMethod yX4_put, .selects RX4 yX4_put yX4_put, .initialized RX4, .code yX4_put cX4_put 4 none, .fieldLink RX4 9 "BeamSeatsModel" "m" "[I", .methodLink RX4 45 yX4_it, .instanceMethod yX4_it, .selects RX4 yX4_it yX4_it, .code yX4_it cX4_it 3 (some .int), .methodLink RX4 58 yX4_held, .static yX4_held, .code yX4_held cX4_held 3 (some .int)] ++ wsX40)
def wsX4_goesOff : List Cond := .code yX4_goesOff cX4_goesOff 3 none :: ([.methodLink RX4 82 yX4_put, .instanceMethod yX4_put, .selects RX4 yX4_put yX4_put, .initialized RX4, .code yX4_put cX4_put 4 none, .fieldLink RX4 9 "BeamSeatsModel" "m" "[I"] ++ wsX40)
def wsX4_lay_r1 : List Cond := [Cond.constant RX4 35 (-1000000001), Cond.constant RX4 103 (-1000000005), Cond.constant RX4 89 (-1000000002), Cond.fieldLink RX4 9 "BeamSeatsModel" "m" "[I", Cond.methodLink RX4 94 yX4_isThing, Cond.instanceMethod yX4_isThing, Cond.selects RX4 yX4_isThing yX4_isThing, Cond.initialized RX4, Cond.code yX4_isThing cX4_isThing 2 (some .boolean), Cond.methodLink RX4 41 yX4_in, Cond.static yX4_in, Cond.code yX4_in cX4_in 4 (some .boolean), Cond.methodLink RX4 37 yX4_finds, Cond.instanceMethod yX4_finds, Cond.selects RX4 yX4_finds yX4_finds, Cond.code yX4_finds cX4_finds 2 (some .int), Cond.fieldLink RX4 19 "BeamSeatsModel" "found" "[I", Cond.methodLink RX4 62 yX4_isOn, Cond.instanceMethod yX4_isOn, Cond.selects RX4 yX4_isOn yX4_isOn, Cond.code yX4_isOn cX4_isOn 2 (some .boolean), Cond.methodLink RX4 45 yX4_it, Cond.instanceMethod yX4_it, Cond.selects RX4 yX4_it yX4_it]
def wsX4_lay_r2 : List Cond := [Cond.code yX4_it cX4_it 3 (some .int), Cond.methodLink RX4 105 yX4_isBorne, Cond.instanceMethod yX4_isBorne, Cond.selects RX4 yX4_isBorne yX4_isBorne, Cond.code yX4_isBorne cX4_isBorne 2 (some .boolean), Cond.methodLink RX4 69 yX4_loadAt, Cond.instanceMethod yX4_loadAt, Cond.selects RX4 yX4_loadAt yX4_loadAt, Cond.code yX4_loadAt cX4_loadAt 4 (some .int), Cond.methodLink RX4 66 yX4_weighs, Cond.instanceMethod yX4_weighs, Cond.selects RX4 yX4_weighs yX4_weighs, Cond.code yX4_weighs cX4_weighs 3 (some .int), Cond.methodLink RX4 72 yX4_bears, Cond.instanceMethod yX4_bears, Cond.selects RX4 yX4_bears yX4_bears, Cond.code yX4_bears cX4_bears 2 (some .int), Cond.methodLink RX4 58 yX4_held, Cond.static yX4_held, Cond.code yX4_held cX4_held 3 (some .int), Cond.methodLink RX4 108 yX4_comesOn, Cond.instanceMethod yX4_comesOn, Cond.selects RX4 yX4_comesOn yX4_comesOn, Cond.code yX4_comesOn cX4_comesOn 2 none]
def wsX4_lay_r3 : List Cond := [Cond.methodLink RX4 82 yX4_put, Cond.instanceMethod yX4_put, Cond.selects RX4 yX4_put yX4_put, Cond.code yX4_put cX4_put 4 none]
def wsX4_lay : List Cond := .code yX4_lay cX4_lay 2 (some .int) :: ((wsX4_lay_r1 ++ (wsX4_lay_r2 ++ wsX4_lay_r3)) ++ wsX40)
def wsX4_take_r1 : List Cond := [Cond.constant RX4 35 (-1000000001), Cond.constant RX4 103 (-1000000005), Cond.fieldLink RX4 9 "BeamSeatsModel" "m" "[I", Cond.methodLink RX4 94 yX4_isThing, Cond.instanceMethod yX4_isThing, Cond.selects RX4 yX4_isThing yX4_isThing, Cond.initialized RX4, Cond.code yX4_isThing cX4_isThing 2 (some .boolean), Cond.methodLink RX4 41 yX4_in, Cond.static yX4_in, Cond.code yX4_in cX4_in 4 (some .boolean), Cond.methodLink RX4 37 yX4_finds, Cond.instanceMethod yX4_finds, Cond.selects RX4 yX4_finds yX4_finds, Cond.code yX4_finds cX4_finds 2 (some .int), Cond.fieldLink RX4 19 "BeamSeatsModel" "found" "[I", Cond.methodLink RX4 62 yX4_isOn, Cond.instanceMethod yX4_isOn, Cond.selects RX4 yX4_isOn yX4_isOn, Cond.code yX4_isOn cX4_isOn 2 (some .boolean), Cond.methodLink RX4 45 yX4_it, Cond.instanceMethod yX4_it, Cond.selects RX4 yX4_it yX4_it, Cond.code yX4_it cX4_it 3 (some .int)]
def wsX4_take_r2 : List Cond := [Cond.methodLink RX4 112 yX4_goesOff, Cond.instanceMethod yX4_goesOff, Cond.selects RX4 yX4_goesOff yX4_goesOff, Cond.code yX4_goesOff cX4_goesOff 3 none, Cond.methodLink RX4 82 yX4_put, Cond.instanceMethod yX4_put, Cond.selects RX4 yX4_put yX4_put, Cond.code yX4_put cX4_put 4 none]
def wsX4_take : List Cond := .code yX4_take cX4_take 2 (some .int) :: ((wsX4_take_r1 ++ wsX4_take_r2) ++ wsX40)
def wsX4_passes_r1 : List Cond := [Cond.methodLink RX4 62 yX4_isOn, Cond.instanceMethod yX4_isOn, Cond.selects RX4 yX4_isOn yX4_isOn, Cond.initialized RX4, Cond.code yX4_isOn cX4_isOn 2 (some .boolean), Cond.methodLink RX4 45 yX4_it, Cond.instanceMethod yX4_it, Cond.selects RX4 yX4_it yX4_it, Cond.code yX4_it cX4_it 3 (some .int), Cond.fieldLink RX4 9 "BeamSeatsModel" "m" "[I", Cond.methodLink RX4 116 yX4_getsOff, Cond.instanceMethod yX4_getsOff, Cond.selects RX4 yX4_getsOff yX4_getsOff, Cond.code yX4_getsOff cX4_getsOff 3 (some .boolean), Cond.methodLink RX4 55 yX4_others, Cond.instanceMethod yX4_others, Cond.selects RX4 yX4_others yX4_others, Cond.code yX4_others cX4_others 2 (some .int), Cond.methodLink RX4 49 yX4_setOf, Cond.instanceMethod yX4_setOf, Cond.selects RX4 yX4_setOf yX4_setOf, Cond.code yX4_setOf cX4_setOf 4 (some .int), Cond.methodLink RX4 52 yX4_bits, Cond.static yX4_bits]
def wsX4_passes_r2 : List Cond := [Cond.code yX4_bits cX4_bits 3 (some .int), Cond.methodLink RX4 112 yX4_goesOff, Cond.instanceMethod yX4_goesOff, Cond.selects RX4 yX4_goesOff yX4_goesOff, Cond.code yX4_goesOff cX4_goesOff 3 none, Cond.methodLink RX4 82 yX4_put, Cond.instanceMethod yX4_put, Cond.selects RX4 yX4_put yX4_put, Cond.code yX4_put cX4_put 4 none, Cond.methodLink RX4 120 yX4_getsOn, Cond.instanceMethod yX4_getsOn, Cond.selects RX4 yX4_getsOn yX4_getsOn, Cond.code yX4_getsOn cX4_getsOn 2 (some .boolean), Cond.methodLink RX4 105 yX4_isBorne, Cond.instanceMethod yX4_isBorne, Cond.selects RX4 yX4_isBorne yX4_isBorne, Cond.code yX4_isBorne cX4_isBorne 2 (some .boolean), Cond.methodLink RX4 69 yX4_loadAt, Cond.instanceMethod yX4_loadAt, Cond.selects RX4 yX4_loadAt yX4_loadAt, Cond.code yX4_loadAt cX4_loadAt 4 (some .int), Cond.methodLink RX4 66 yX4_weighs, Cond.instanceMethod yX4_weighs, Cond.selects RX4 yX4_weighs yX4_weighs]
def wsX4_passes_r3 : List Cond := [Cond.code yX4_weighs cX4_weighs 3 (some .int), Cond.methodLink RX4 72 yX4_bears, Cond.instanceMethod yX4_bears, Cond.selects RX4 yX4_bears yX4_bears, Cond.code yX4_bears cX4_bears 2 (some .int), Cond.methodLink RX4 58 yX4_held, Cond.static yX4_held, Cond.code yX4_held cX4_held 3 (some .int), Cond.methodLink RX4 108 yX4_comesOn, Cond.instanceMethod yX4_comesOn, Cond.selects RX4 yX4_comesOn yX4_comesOn, Cond.code yX4_comesOn cX4_comesOn 2 none]
def wsX4_passes : List Cond := .code yX4_passes cX4_passes 4 none :: ((wsX4_passes_r1 ++ (wsX4_passes_r2 ++ wsX4_passes_r3)) ++ wsX40)
def wsX4_allDry : List Cond := .code yX4_allDry cX4_allDry 2 none :: ([.fieldLink RX4 9 "BeamSeatsModel" "m" "[I", .methodLink RX4 62 yX4_isOn, .instanceMethod yX4_isOn, .selects RX4 yX4_isOn yX4_isOn, .initialized RX4, .code yX4_isOn cX4_isOn 2 (some .boolean), .methodLink RX4 45 yX4_it, .instanceMethod yX4_it, .selects RX4 yX4_it yX4_it, .code yX4_it cX4_it 3 (some .int), .methodLink RX4 97 yX4_dries, .instanceMethod yX4_dries, .selects RX4 yX4_dries yX4_dries, .code yX4_dries cX4_dries 3 (some .int), .methodLink RX4 58 yX4_held, .static yX4_held, .code yX4_held cX4_held 3 (some .int), .methodLink RX4 82 yX4_put, .instanceMethod yX4_put, .selects RX4 yX4_put yX4_put, .code yX4_put cX4_put 4 none] ++ wsX40)
def wsX4_goes_r1 : List Cond := [Cond.fieldLink RX4 9 "BeamSeatsModel" "m" "[I", Cond.methodLink RX4 49 yX4_setOf, Cond.instanceMethod yX4_setOf, Cond.selects RX4 yX4_setOf yX4_setOf, Cond.initialized RX4, Cond.code yX4_setOf cX4_setOf 4 (some .int), Cond.methodLink RX4 45 yX4_it, Cond.instanceMethod yX4_it, Cond.selects RX4 yX4_it yX4_it, Cond.code yX4_it cX4_it 3 (some .int), Cond.methodLink RX4 123 yX4_passes, Cond.instanceMethod yX4_passes, Cond.selects RX4 yX4_passes yX4_passes, Cond.code yX4_passes cX4_passes 4 none, Cond.methodLink RX4 62 yX4_isOn, Cond.instanceMethod yX4_isOn, Cond.selects RX4 yX4_isOn yX4_isOn, Cond.code yX4_isOn cX4_isOn 2 (some .boolean), Cond.methodLink RX4 116 yX4_getsOff, Cond.instanceMethod yX4_getsOff, Cond.selects RX4 yX4_getsOff yX4_getsOff, Cond.code yX4_getsOff cX4_getsOff 3 (some .boolean), Cond.methodLink RX4 55 yX4_others, Cond.instanceMethod yX4_others]
def wsX4_goes_r2 : List Cond := [Cond.selects RX4 yX4_others yX4_others, Cond.code yX4_others cX4_others 2 (some .int), Cond.methodLink RX4 52 yX4_bits, Cond.static yX4_bits, Cond.code yX4_bits cX4_bits 3 (some .int), Cond.methodLink RX4 112 yX4_goesOff, Cond.instanceMethod yX4_goesOff, Cond.selects RX4 yX4_goesOff yX4_goesOff, Cond.code yX4_goesOff cX4_goesOff 3 none, Cond.methodLink RX4 82 yX4_put, Cond.instanceMethod yX4_put, Cond.selects RX4 yX4_put yX4_put, Cond.code yX4_put cX4_put 4 none, Cond.methodLink RX4 120 yX4_getsOn, Cond.instanceMethod yX4_getsOn, Cond.selects RX4 yX4_getsOn yX4_getsOn, Cond.code yX4_getsOn cX4_getsOn 2 (some .boolean), Cond.methodLink RX4 105 yX4_isBorne, Cond.instanceMethod yX4_isBorne, Cond.selects RX4 yX4_isBorne yX4_isBorne, Cond.code yX4_isBorne cX4_isBorne 2 (some .boolean), Cond.methodLink RX4 69 yX4_loadAt, Cond.instanceMethod yX4_loadAt, Cond.selects RX4 yX4_loadAt yX4_loadAt]
def wsX4_goes_r3 : List Cond := [Cond.code yX4_loadAt cX4_loadAt 4 (some .int), Cond.methodLink RX4 66 yX4_weighs, Cond.instanceMethod yX4_weighs, Cond.selects RX4 yX4_weighs yX4_weighs, Cond.code yX4_weighs cX4_weighs 3 (some .int), Cond.methodLink RX4 72 yX4_bears, Cond.instanceMethod yX4_bears, Cond.selects RX4 yX4_bears yX4_bears, Cond.code yX4_bears cX4_bears 2 (some .int), Cond.methodLink RX4 58 yX4_held, Cond.static yX4_held, Cond.code yX4_held cX4_held 3 (some .int), Cond.methodLink RX4 108 yX4_comesOn, Cond.instanceMethod yX4_comesOn, Cond.selects RX4 yX4_comesOn yX4_comesOn, Cond.code yX4_comesOn cX4_comesOn 2 none, Cond.methodLink RX4 126 yX4_allDry, Cond.instanceMethod yX4_allDry, Cond.selects RX4 yX4_allDry yX4_allDry, Cond.code yX4_allDry cX4_allDry 2 none, Cond.methodLink RX4 97 yX4_dries, Cond.instanceMethod yX4_dries, Cond.selects RX4 yX4_dries yX4_dries, Cond.code yX4_dries cX4_dries 3 (some .int)]
def wsX4_goes : List Cond := .code yX4_goes cX4_goes 4 none :: ((wsX4_goes_r1 ++ (wsX4_goes_r2 ++ wsX4_goes_r3)) ++ wsX40)
def wsX4_goesFor_r1 : List Cond := [Cond.methodLink RX4 129 yX4_goes, Cond.instanceMethod yX4_goes, Cond.selects RX4 yX4_goes yX4_goes, Cond.initialized RX4, Cond.code yX4_goes cX4_goes 4 none, Cond.fieldLink RX4 9 "BeamSeatsModel" "m" "[I", Cond.methodLink RX4 49 yX4_setOf, Cond.instanceMethod yX4_setOf, Cond.selects RX4 yX4_setOf yX4_setOf, Cond.code yX4_setOf cX4_setOf 4 (some .int), Cond.methodLink RX4 45 yX4_it, Cond.instanceMethod yX4_it, Cond.selects RX4 yX4_it yX4_it, Cond.code yX4_it cX4_it 3 (some .int), Cond.methodLink RX4 123 yX4_passes, Cond.instanceMethod yX4_passes, Cond.selects RX4 yX4_passes yX4_passes, Cond.code yX4_passes cX4_passes 4 none, Cond.methodLink RX4 62 yX4_isOn, Cond.instanceMethod yX4_isOn, Cond.selects RX4 yX4_isOn yX4_isOn, Cond.code yX4_isOn cX4_isOn 2 (some .boolean), Cond.methodLink RX4 116 yX4_getsOff, Cond.instanceMethod yX4_getsOff]
def wsX4_goesFor_r2 : List Cond := [Cond.selects RX4 yX4_getsOff yX4_getsOff, Cond.code yX4_getsOff cX4_getsOff 3 (some .boolean), Cond.methodLink RX4 55 yX4_others, Cond.instanceMethod yX4_others, Cond.selects RX4 yX4_others yX4_others, Cond.code yX4_others cX4_others 2 (some .int), Cond.methodLink RX4 52 yX4_bits, Cond.static yX4_bits, Cond.code yX4_bits cX4_bits 3 (some .int), Cond.methodLink RX4 112 yX4_goesOff, Cond.instanceMethod yX4_goesOff, Cond.selects RX4 yX4_goesOff yX4_goesOff, Cond.code yX4_goesOff cX4_goesOff 3 none, Cond.methodLink RX4 82 yX4_put, Cond.instanceMethod yX4_put, Cond.selects RX4 yX4_put yX4_put, Cond.code yX4_put cX4_put 4 none, Cond.methodLink RX4 120 yX4_getsOn, Cond.instanceMethod yX4_getsOn, Cond.selects RX4 yX4_getsOn yX4_getsOn, Cond.code yX4_getsOn cX4_getsOn 2 (some .boolean), Cond.methodLink RX4 105 yX4_isBorne, Cond.instanceMethod yX4_isBorne, Cond.selects RX4 yX4_isBorne yX4_isBorne]
def wsX4_goesFor_r3 : List Cond := [Cond.code yX4_isBorne cX4_isBorne 2 (some .boolean), Cond.methodLink RX4 69 yX4_loadAt, Cond.instanceMethod yX4_loadAt, Cond.selects RX4 yX4_loadAt yX4_loadAt, Cond.code yX4_loadAt cX4_loadAt 4 (some .int), Cond.methodLink RX4 66 yX4_weighs, Cond.instanceMethod yX4_weighs, Cond.selects RX4 yX4_weighs yX4_weighs, Cond.code yX4_weighs cX4_weighs 3 (some .int), Cond.methodLink RX4 72 yX4_bears, Cond.instanceMethod yX4_bears, Cond.selects RX4 yX4_bears yX4_bears, Cond.code yX4_bears cX4_bears 2 (some .int), Cond.methodLink RX4 58 yX4_held, Cond.static yX4_held, Cond.code yX4_held cX4_held 3 (some .int), Cond.methodLink RX4 108 yX4_comesOn, Cond.instanceMethod yX4_comesOn, Cond.selects RX4 yX4_comesOn yX4_comesOn, Cond.code yX4_comesOn cX4_comesOn 2 none, Cond.methodLink RX4 126 yX4_allDry, Cond.instanceMethod yX4_allDry, Cond.selects RX4 yX4_allDry yX4_allDry, Cond.code yX4_allDry cX4_allDry 2 none]
def wsX4_goesFor_r4 : List Cond := [Cond.methodLink RX4 97 yX4_dries, Cond.instanceMethod yX4_dries, Cond.selects RX4 yX4_dries yX4_dries, Cond.code yX4_dries cX4_dries 3 (some .int)]
def wsX4_goesFor : List Cond := .code yX4_goesFor cX4_goesFor 3 none :: ((wsX4_goesFor_r1 ++ (wsX4_goesFor_r2 ++ (wsX4_goesFor_r3 ++ wsX4_goesFor_r4))) ++ wsX40)
def wsX4_seconds_r1 : List Cond := [Cond.constant RX4 35 (-1000000001), Cond.fieldLink RX4 9 "BeamSeatsModel" "m" "[I", Cond.constant RX4 132 (99999), Cond.constant RX4 103 (-1000000005), Cond.methodLink RX4 41 yX4_in, Cond.static yX4_in, Cond.initialized RX4, Cond.code yX4_in cX4_in 4 (some .boolean), Cond.methodLink RX4 37 yX4_finds, Cond.instanceMethod yX4_finds, Cond.selects RX4 yX4_finds yX4_finds, Cond.code yX4_finds cX4_finds 2 (some .int), Cond.fieldLink RX4 19 "BeamSeatsModel" "found" "[I", Cond.methodLink RX4 133 yX4_goesFor, Cond.instanceMethod yX4_goesFor, Cond.selects RX4 yX4_goesFor yX4_goesFor, Cond.code yX4_goesFor cX4_goesFor 3 none, Cond.methodLink RX4 129 yX4_goes, Cond.instanceMethod yX4_goes, Cond.selects RX4 yX4_goes yX4_goes, Cond.code yX4_goes cX4_goes 4 none, Cond.methodLink RX4 49 yX4_setOf, Cond.instanceMethod yX4_setOf, Cond.selects RX4 yX4_setOf yX4_setOf]
def wsX4_seconds_r2 : List Cond := [Cond.code yX4_setOf cX4_setOf 4 (some .int), Cond.methodLink RX4 45 yX4_it, Cond.instanceMethod yX4_it, Cond.selects RX4 yX4_it yX4_it, Cond.code yX4_it cX4_it 3 (some .int), Cond.methodLink RX4 123 yX4_passes, Cond.instanceMethod yX4_passes, Cond.selects RX4 yX4_passes yX4_passes, Cond.code yX4_passes cX4_passes 4 none, Cond.methodLink RX4 62 yX4_isOn, Cond.instanceMethod yX4_isOn, Cond.selects RX4 yX4_isOn yX4_isOn, Cond.code yX4_isOn cX4_isOn 2 (some .boolean), Cond.methodLink RX4 116 yX4_getsOff, Cond.instanceMethod yX4_getsOff, Cond.selects RX4 yX4_getsOff yX4_getsOff, Cond.code yX4_getsOff cX4_getsOff 3 (some .boolean), Cond.methodLink RX4 55 yX4_others, Cond.instanceMethod yX4_others, Cond.selects RX4 yX4_others yX4_others, Cond.code yX4_others cX4_others 2 (some .int), Cond.methodLink RX4 52 yX4_bits, Cond.static yX4_bits, Cond.code yX4_bits cX4_bits 3 (some .int)]
def wsX4_seconds_r3 : List Cond := [Cond.methodLink RX4 112 yX4_goesOff, Cond.instanceMethod yX4_goesOff, Cond.selects RX4 yX4_goesOff yX4_goesOff, Cond.code yX4_goesOff cX4_goesOff 3 none, Cond.methodLink RX4 82 yX4_put, Cond.instanceMethod yX4_put, Cond.selects RX4 yX4_put yX4_put, Cond.code yX4_put cX4_put 4 none, Cond.methodLink RX4 120 yX4_getsOn, Cond.instanceMethod yX4_getsOn, Cond.selects RX4 yX4_getsOn yX4_getsOn, Cond.code yX4_getsOn cX4_getsOn 2 (some .boolean), Cond.methodLink RX4 105 yX4_isBorne, Cond.instanceMethod yX4_isBorne, Cond.selects RX4 yX4_isBorne yX4_isBorne, Cond.code yX4_isBorne cX4_isBorne 2 (some .boolean), Cond.methodLink RX4 69 yX4_loadAt, Cond.instanceMethod yX4_loadAt, Cond.selects RX4 yX4_loadAt yX4_loadAt, Cond.code yX4_loadAt cX4_loadAt 4 (some .int), Cond.methodLink RX4 66 yX4_weighs, Cond.instanceMethod yX4_weighs, Cond.selects RX4 yX4_weighs yX4_weighs, Cond.code yX4_weighs cX4_weighs 3 (some .int)]
def wsX4_seconds_r4 : List Cond := [Cond.methodLink RX4 72 yX4_bears, Cond.instanceMethod yX4_bears, Cond.selects RX4 yX4_bears yX4_bears, Cond.code yX4_bears cX4_bears 2 (some .int), Cond.methodLink RX4 58 yX4_held, Cond.static yX4_held, Cond.code yX4_held cX4_held 3 (some .int), Cond.methodLink RX4 108 yX4_comesOn, Cond.instanceMethod yX4_comesOn, Cond.selects RX4 yX4_comesOn yX4_comesOn, Cond.code yX4_comesOn cX4_comesOn 2 none, Cond.methodLink RX4 126 yX4_allDry, Cond.instanceMethod yX4_allDry, Cond.selects RX4 yX4_allDry yX4_allDry, Cond.code yX4_allDry cX4_allDry 2 none, Cond.methodLink RX4 97 yX4_dries, Cond.instanceMethod yX4_dries, Cond.selects RX4 yX4_dries yX4_dries, Cond.code yX4_dries cX4_dries 3 (some .int)]
def wsX4_seconds : List Cond := .code yX4_seconds cX4_seconds 2 (some .int) :: ((wsX4_seconds_r1 ++ (wsX4_seconds_r2 ++ (wsX4_seconds_r3 ++ wsX4_seconds_r4))) ++ wsX40)
def wsX4_thinks : List Cond := .code yX4_thinks cX4_thinks 1 none :: ([.fieldLink RX4 9 "BeamSeatsModel" "m" "[I", .fieldLink RX4 16 "BeamSeatsModel" "was" "[I", .methodLink RX4 136 yX4_copyAll, .static yX4_copyAll, .initialized RX4, .code yX4_copyAll cX4_copyAll 3 none] ++ wsX40)
def wsX4_putsBack : List Cond := .code yX4_putsBack cX4_putsBack 1 none :: ([.fieldLink RX4 16 "BeamSeatsModel" "was" "[I", .fieldLink RX4 9 "BeamSeatsModel" "m" "[I", .methodLink RX4 136 yX4_copyAll, .static yX4_copyAll, .initialized RX4, .code yX4_copyAll cX4_copyAll 3 none] ++ wsX40)
def wsX4_on_r1 : List Cond := [Cond.constant RX4 35 (-1000000001), Cond.methodLink RX4 94 yX4_isThing, Cond.instanceMethod yX4_isThing, Cond.selects RX4 yX4_isThing yX4_isThing, Cond.initialized RX4, Cond.code yX4_isThing cX4_isThing 2 (some .boolean), Cond.fieldLink RX4 9 "BeamSeatsModel" "m" "[I", Cond.methodLink RX4 41 yX4_in, Cond.static yX4_in, Cond.code yX4_in cX4_in 4 (some .boolean), Cond.methodLink RX4 37 yX4_finds, Cond.instanceMethod yX4_finds, Cond.selects RX4 yX4_finds yX4_finds, Cond.code yX4_finds cX4_finds 2 (some .int), Cond.fieldLink RX4 19 "BeamSeatsModel" "found" "[I", Cond.methodLink RX4 140 yX4_thinks, Cond.instanceMethod yX4_thinks, Cond.selects RX4 yX4_thinks yX4_thinks, Cond.code yX4_thinks cX4_thinks 1 none, Cond.fieldLink RX4 16 "BeamSeatsModel" "was" "[I", Cond.methodLink RX4 136 yX4_copyAll, Cond.static yX4_copyAll, Cond.code yX4_copyAll cX4_copyAll 3 none, Cond.methodLink RX4 133 yX4_goesFor]
def wsX4_on_r2 : List Cond := [Cond.instanceMethod yX4_goesFor, Cond.selects RX4 yX4_goesFor yX4_goesFor, Cond.code yX4_goesFor cX4_goesFor 3 none, Cond.methodLink RX4 129 yX4_goes, Cond.instanceMethod yX4_goes, Cond.selects RX4 yX4_goes yX4_goes, Cond.code yX4_goes cX4_goes 4 none, Cond.methodLink RX4 49 yX4_setOf, Cond.instanceMethod yX4_setOf, Cond.selects RX4 yX4_setOf yX4_setOf, Cond.code yX4_setOf cX4_setOf 4 (some .int), Cond.methodLink RX4 45 yX4_it, Cond.instanceMethod yX4_it, Cond.selects RX4 yX4_it yX4_it, Cond.code yX4_it cX4_it 3 (some .int), Cond.methodLink RX4 123 yX4_passes, Cond.instanceMethod yX4_passes, Cond.selects RX4 yX4_passes yX4_passes, Cond.code yX4_passes cX4_passes 4 none, Cond.methodLink RX4 62 yX4_isOn, Cond.instanceMethod yX4_isOn, Cond.selects RX4 yX4_isOn yX4_isOn, Cond.code yX4_isOn cX4_isOn 2 (some .boolean), Cond.methodLink RX4 116 yX4_getsOff]
def wsX4_on_r3 : List Cond := [Cond.instanceMethod yX4_getsOff, Cond.selects RX4 yX4_getsOff yX4_getsOff, Cond.code yX4_getsOff cX4_getsOff 3 (some .boolean), Cond.methodLink RX4 55 yX4_others, Cond.instanceMethod yX4_others, Cond.selects RX4 yX4_others yX4_others, Cond.code yX4_others cX4_others 2 (some .int), Cond.methodLink RX4 52 yX4_bits, Cond.static yX4_bits, Cond.code yX4_bits cX4_bits 3 (some .int), Cond.methodLink RX4 112 yX4_goesOff, Cond.instanceMethod yX4_goesOff, Cond.selects RX4 yX4_goesOff yX4_goesOff, Cond.code yX4_goesOff cX4_goesOff 3 none, Cond.methodLink RX4 82 yX4_put, Cond.instanceMethod yX4_put, Cond.selects RX4 yX4_put yX4_put, Cond.code yX4_put cX4_put 4 none, Cond.methodLink RX4 120 yX4_getsOn, Cond.instanceMethod yX4_getsOn, Cond.selects RX4 yX4_getsOn yX4_getsOn, Cond.code yX4_getsOn cX4_getsOn 2 (some .boolean), Cond.methodLink RX4 105 yX4_isBorne, Cond.instanceMethod yX4_isBorne]
def wsX4_on_r4 : List Cond := [Cond.selects RX4 yX4_isBorne yX4_isBorne, Cond.code yX4_isBorne cX4_isBorne 2 (some .boolean), Cond.methodLink RX4 69 yX4_loadAt, Cond.instanceMethod yX4_loadAt, Cond.selects RX4 yX4_loadAt yX4_loadAt, Cond.code yX4_loadAt cX4_loadAt 4 (some .int), Cond.methodLink RX4 66 yX4_weighs, Cond.instanceMethod yX4_weighs, Cond.selects RX4 yX4_weighs yX4_weighs, Cond.code yX4_weighs cX4_weighs 3 (some .int), Cond.methodLink RX4 72 yX4_bears, Cond.instanceMethod yX4_bears, Cond.selects RX4 yX4_bears yX4_bears, Cond.code yX4_bears cX4_bears 2 (some .int), Cond.methodLink RX4 58 yX4_held, Cond.static yX4_held, Cond.code yX4_held cX4_held 3 (some .int), Cond.methodLink RX4 108 yX4_comesOn, Cond.instanceMethod yX4_comesOn, Cond.selects RX4 yX4_comesOn yX4_comesOn, Cond.code yX4_comesOn cX4_comesOn 2 none, Cond.methodLink RX4 126 yX4_allDry, Cond.instanceMethod yX4_allDry, Cond.selects RX4 yX4_allDry yX4_allDry]
def wsX4_on_r5 : List Cond := [Cond.code yX4_allDry cX4_allDry 2 none, Cond.methodLink RX4 97 yX4_dries, Cond.instanceMethod yX4_dries, Cond.selects RX4 yX4_dries yX4_dries, Cond.code yX4_dries cX4_dries 3 (some .int), Cond.methodLink RX4 143 yX4_putsBack, Cond.instanceMethod yX4_putsBack, Cond.selects RX4 yX4_putsBack yX4_putsBack, Cond.code yX4_putsBack cX4_putsBack 1 none]
def wsX4_on : List Cond := .code yX4_on cX4_on 5 (some .int) :: ((wsX4_on_r1 ++ (wsX4_on_r2 ++ (wsX4_on_r3 ++ (wsX4_on_r4 ++ wsX4_on_r5)))) ++ wsX40)
def wsX4_then_r1 : List Cond := [Cond.constant RX4 35 (-1000000001), Cond.methodLink RX4 41 yX4_in, Cond.static yX4_in, Cond.initialized RX4, Cond.code yX4_in cX4_in 4 (some .boolean), Cond.methodLink RX4 37 yX4_finds, Cond.instanceMethod yX4_finds, Cond.selects RX4 yX4_finds yX4_finds, Cond.code yX4_finds cX4_finds 2 (some .int), Cond.fieldLink RX4 19 "BeamSeatsModel" "found" "[I", Cond.methodLink RX4 140 yX4_thinks, Cond.instanceMethod yX4_thinks, Cond.selects RX4 yX4_thinks yX4_thinks, Cond.code yX4_thinks cX4_thinks 1 none, Cond.fieldLink RX4 9 "BeamSeatsModel" "m" "[I", Cond.fieldLink RX4 16 "BeamSeatsModel" "was" "[I", Cond.methodLink RX4 136 yX4_copyAll, Cond.static yX4_copyAll, Cond.code yX4_copyAll cX4_copyAll 3 none, Cond.methodLink RX4 133 yX4_goesFor, Cond.instanceMethod yX4_goesFor, Cond.selects RX4 yX4_goesFor yX4_goesFor, Cond.code yX4_goesFor cX4_goesFor 3 none, Cond.methodLink RX4 129 yX4_goes]
def wsX4_then_r2 : List Cond := [Cond.instanceMethod yX4_goes, Cond.selects RX4 yX4_goes yX4_goes, Cond.code yX4_goes cX4_goes 4 none, Cond.methodLink RX4 49 yX4_setOf, Cond.instanceMethod yX4_setOf, Cond.selects RX4 yX4_setOf yX4_setOf, Cond.code yX4_setOf cX4_setOf 4 (some .int), Cond.methodLink RX4 45 yX4_it, Cond.instanceMethod yX4_it, Cond.selects RX4 yX4_it yX4_it, Cond.code yX4_it cX4_it 3 (some .int), Cond.methodLink RX4 123 yX4_passes, Cond.instanceMethod yX4_passes, Cond.selects RX4 yX4_passes yX4_passes, Cond.code yX4_passes cX4_passes 4 none, Cond.methodLink RX4 62 yX4_isOn, Cond.instanceMethod yX4_isOn, Cond.selects RX4 yX4_isOn yX4_isOn, Cond.code yX4_isOn cX4_isOn 2 (some .boolean), Cond.methodLink RX4 116 yX4_getsOff, Cond.instanceMethod yX4_getsOff, Cond.selects RX4 yX4_getsOff yX4_getsOff, Cond.code yX4_getsOff cX4_getsOff 3 (some .boolean), Cond.methodLink RX4 55 yX4_others]
def wsX4_then_r3 : List Cond := [Cond.instanceMethod yX4_others, Cond.selects RX4 yX4_others yX4_others, Cond.code yX4_others cX4_others 2 (some .int), Cond.methodLink RX4 52 yX4_bits, Cond.static yX4_bits, Cond.code yX4_bits cX4_bits 3 (some .int), Cond.methodLink RX4 112 yX4_goesOff, Cond.instanceMethod yX4_goesOff, Cond.selects RX4 yX4_goesOff yX4_goesOff, Cond.code yX4_goesOff cX4_goesOff 3 none, Cond.methodLink RX4 82 yX4_put, Cond.instanceMethod yX4_put, Cond.selects RX4 yX4_put yX4_put, Cond.code yX4_put cX4_put 4 none, Cond.methodLink RX4 120 yX4_getsOn, Cond.instanceMethod yX4_getsOn, Cond.selects RX4 yX4_getsOn yX4_getsOn, Cond.code yX4_getsOn cX4_getsOn 2 (some .boolean), Cond.methodLink RX4 105 yX4_isBorne, Cond.instanceMethod yX4_isBorne, Cond.selects RX4 yX4_isBorne yX4_isBorne, Cond.code yX4_isBorne cX4_isBorne 2 (some .boolean), Cond.methodLink RX4 69 yX4_loadAt, Cond.instanceMethod yX4_loadAt]
def wsX4_then_r4 : List Cond := [Cond.selects RX4 yX4_loadAt yX4_loadAt, Cond.code yX4_loadAt cX4_loadAt 4 (some .int), Cond.methodLink RX4 66 yX4_weighs, Cond.instanceMethod yX4_weighs, Cond.selects RX4 yX4_weighs yX4_weighs, Cond.code yX4_weighs cX4_weighs 3 (some .int), Cond.methodLink RX4 72 yX4_bears, Cond.instanceMethod yX4_bears, Cond.selects RX4 yX4_bears yX4_bears, Cond.code yX4_bears cX4_bears 2 (some .int), Cond.methodLink RX4 58 yX4_held, Cond.static yX4_held, Cond.code yX4_held cX4_held 3 (some .int), Cond.methodLink RX4 108 yX4_comesOn, Cond.instanceMethod yX4_comesOn, Cond.selects RX4 yX4_comesOn yX4_comesOn, Cond.code yX4_comesOn cX4_comesOn 2 none, Cond.methodLink RX4 126 yX4_allDry, Cond.instanceMethod yX4_allDry, Cond.selects RX4 yX4_allDry yX4_allDry, Cond.code yX4_allDry cX4_allDry 2 none, Cond.methodLink RX4 97 yX4_dries, Cond.instanceMethod yX4_dries, Cond.selects RX4 yX4_dries yX4_dries]
def wsX4_then_r5 : List Cond := [Cond.code yX4_dries cX4_dries 3 (some .int), Cond.methodLink RX4 143 yX4_putsBack, Cond.instanceMethod yX4_putsBack, Cond.selects RX4 yX4_putsBack yX4_putsBack, Cond.code yX4_putsBack cX4_putsBack 1 none]
def wsX4_then : List Cond := .code yX4_then cX4_then 4 (some .int) :: ((wsX4_then_r1 ++ (wsX4_then_r2 ++ (wsX4_then_r3 ++ (wsX4_then_r4 ++ wsX4_then_r5)))) ++ wsX40)
def wsX4_soIn_r1 : List Cond := [Cond.methodLink RX4 45 yX4_it, Cond.instanceMethod yX4_it, Cond.selects RX4 yX4_it yX4_it, Cond.initialized RX4, Cond.code yX4_it cX4_it 3 (some .int), Cond.fieldLink RX4 9 "BeamSeatsModel" "m" "[I", Cond.methodLink RX4 129 yX4_goes, Cond.instanceMethod yX4_goes, Cond.selects RX4 yX4_goes yX4_goes, Cond.code yX4_goes cX4_goes 4 none, Cond.methodLink RX4 49 yX4_setOf, Cond.instanceMethod yX4_setOf, Cond.selects RX4 yX4_setOf yX4_setOf, Cond.code yX4_setOf cX4_setOf 4 (some .int), Cond.methodLink RX4 123 yX4_passes, Cond.instanceMethod yX4_passes, Cond.selects RX4 yX4_passes yX4_passes, Cond.code yX4_passes cX4_passes 4 none, Cond.methodLink RX4 62 yX4_isOn, Cond.instanceMethod yX4_isOn, Cond.selects RX4 yX4_isOn yX4_isOn, Cond.code yX4_isOn cX4_isOn 2 (some .boolean), Cond.methodLink RX4 116 yX4_getsOff, Cond.instanceMethod yX4_getsOff]
def wsX4_soIn_r2 : List Cond := [Cond.selects RX4 yX4_getsOff yX4_getsOff, Cond.code yX4_getsOff cX4_getsOff 3 (some .boolean), Cond.methodLink RX4 55 yX4_others, Cond.instanceMethod yX4_others, Cond.selects RX4 yX4_others yX4_others, Cond.code yX4_others cX4_others 2 (some .int), Cond.methodLink RX4 52 yX4_bits, Cond.static yX4_bits, Cond.code yX4_bits cX4_bits 3 (some .int), Cond.methodLink RX4 112 yX4_goesOff, Cond.instanceMethod yX4_goesOff, Cond.selects RX4 yX4_goesOff yX4_goesOff, Cond.code yX4_goesOff cX4_goesOff 3 none, Cond.methodLink RX4 82 yX4_put, Cond.instanceMethod yX4_put, Cond.selects RX4 yX4_put yX4_put, Cond.code yX4_put cX4_put 4 none, Cond.methodLink RX4 120 yX4_getsOn, Cond.instanceMethod yX4_getsOn, Cond.selects RX4 yX4_getsOn yX4_getsOn, Cond.code yX4_getsOn cX4_getsOn 2 (some .boolean), Cond.methodLink RX4 105 yX4_isBorne, Cond.instanceMethod yX4_isBorne, Cond.selects RX4 yX4_isBorne yX4_isBorne]
def wsX4_soIn_r3 : List Cond := [Cond.code yX4_isBorne cX4_isBorne 2 (some .boolean), Cond.methodLink RX4 69 yX4_loadAt, Cond.instanceMethod yX4_loadAt, Cond.selects RX4 yX4_loadAt yX4_loadAt, Cond.code yX4_loadAt cX4_loadAt 4 (some .int), Cond.methodLink RX4 66 yX4_weighs, Cond.instanceMethod yX4_weighs, Cond.selects RX4 yX4_weighs yX4_weighs, Cond.code yX4_weighs cX4_weighs 3 (some .int), Cond.methodLink RX4 72 yX4_bears, Cond.instanceMethod yX4_bears, Cond.selects RX4 yX4_bears yX4_bears, Cond.code yX4_bears cX4_bears 2 (some .int), Cond.methodLink RX4 58 yX4_held, Cond.static yX4_held, Cond.code yX4_held cX4_held 3 (some .int), Cond.methodLink RX4 108 yX4_comesOn, Cond.instanceMethod yX4_comesOn, Cond.selects RX4 yX4_comesOn yX4_comesOn, Cond.code yX4_comesOn cX4_comesOn 2 none, Cond.methodLink RX4 126 yX4_allDry, Cond.instanceMethod yX4_allDry, Cond.selects RX4 yX4_allDry yX4_allDry, Cond.code yX4_allDry cX4_allDry 2 none]
def wsX4_soIn_r4 : List Cond := [Cond.methodLink RX4 97 yX4_dries, Cond.instanceMethod yX4_dries, Cond.selects RX4 yX4_dries yX4_dries, Cond.code yX4_dries cX4_dries 3 (some .int), Cond.methodLink RX4 143 yX4_putsBack, Cond.instanceMethod yX4_putsBack, Cond.selects RX4 yX4_putsBack yX4_putsBack, Cond.code yX4_putsBack cX4_putsBack 1 none, Cond.fieldLink RX4 16 "BeamSeatsModel" "was" "[I", Cond.methodLink RX4 136 yX4_copyAll, Cond.static yX4_copyAll, Cond.code yX4_copyAll cX4_copyAll 3 none]
def wsX4_soIn : List Cond := .code yX4_soIn cX4_soIn 6 (some .int) :: ((wsX4_soIn_r1 ++ (wsX4_soIn_r2 ++ (wsX4_soIn_r3 ++ wsX4_soIn_r4))) ++ wsX40)
def wsX4_gets_r1 : List Cond := [Cond.constant RX4 35 (-1000000001), Cond.methodLink RX4 94 yX4_isThing, Cond.instanceMethod yX4_isThing, Cond.selects RX4 yX4_isThing yX4_isThing, Cond.initialized RX4, Cond.code yX4_isThing cX4_isThing 2 (some .boolean), Cond.fieldLink RX4 9 "BeamSeatsModel" "m" "[I", Cond.methodLink RX4 41 yX4_in, Cond.static yX4_in, Cond.code yX4_in cX4_in 4 (some .boolean), Cond.methodLink RX4 37 yX4_finds, Cond.instanceMethod yX4_finds, Cond.selects RX4 yX4_finds yX4_finds, Cond.code yX4_finds cX4_finds 2 (some .int), Cond.fieldLink RX4 19 "BeamSeatsModel" "found" "[I", Cond.methodLink RX4 140 yX4_thinks, Cond.instanceMethod yX4_thinks, Cond.selects RX4 yX4_thinks yX4_thinks, Cond.code yX4_thinks cX4_thinks 1 none, Cond.fieldLink RX4 16 "BeamSeatsModel" "was" "[I", Cond.methodLink RX4 136 yX4_copyAll, Cond.static yX4_copyAll, Cond.code yX4_copyAll cX4_copyAll 3 none, Cond.methodLink RX4 146 yX4_soIn]
def wsX4_gets_r2 : List Cond := [Cond.instanceMethod yX4_soIn, Cond.selects RX4 yX4_soIn yX4_soIn, Cond.code yX4_soIn cX4_soIn 6 (some .int), Cond.methodLink RX4 45 yX4_it, Cond.instanceMethod yX4_it, Cond.selects RX4 yX4_it yX4_it, Cond.code yX4_it cX4_it 3 (some .int), Cond.methodLink RX4 129 yX4_goes, Cond.instanceMethod yX4_goes, Cond.selects RX4 yX4_goes yX4_goes, Cond.code yX4_goes cX4_goes 4 none, Cond.methodLink RX4 49 yX4_setOf, Cond.instanceMethod yX4_setOf, Cond.selects RX4 yX4_setOf yX4_setOf, Cond.code yX4_setOf cX4_setOf 4 (some .int), Cond.methodLink RX4 123 yX4_passes, Cond.instanceMethod yX4_passes, Cond.selects RX4 yX4_passes yX4_passes, Cond.code yX4_passes cX4_passes 4 none, Cond.methodLink RX4 62 yX4_isOn, Cond.instanceMethod yX4_isOn, Cond.selects RX4 yX4_isOn yX4_isOn, Cond.code yX4_isOn cX4_isOn 2 (some .boolean), Cond.methodLink RX4 116 yX4_getsOff]
def wsX4_gets_r3 : List Cond := [Cond.instanceMethod yX4_getsOff, Cond.selects RX4 yX4_getsOff yX4_getsOff, Cond.code yX4_getsOff cX4_getsOff 3 (some .boolean), Cond.methodLink RX4 55 yX4_others, Cond.instanceMethod yX4_others, Cond.selects RX4 yX4_others yX4_others, Cond.code yX4_others cX4_others 2 (some .int), Cond.methodLink RX4 52 yX4_bits, Cond.static yX4_bits, Cond.code yX4_bits cX4_bits 3 (some .int), Cond.methodLink RX4 112 yX4_goesOff, Cond.instanceMethod yX4_goesOff, Cond.selects RX4 yX4_goesOff yX4_goesOff, Cond.code yX4_goesOff cX4_goesOff 3 none, Cond.methodLink RX4 82 yX4_put, Cond.instanceMethod yX4_put, Cond.selects RX4 yX4_put yX4_put, Cond.code yX4_put cX4_put 4 none, Cond.methodLink RX4 120 yX4_getsOn, Cond.instanceMethod yX4_getsOn, Cond.selects RX4 yX4_getsOn yX4_getsOn, Cond.code yX4_getsOn cX4_getsOn 2 (some .boolean), Cond.methodLink RX4 105 yX4_isBorne, Cond.instanceMethod yX4_isBorne]
def wsX4_gets_r4 : List Cond := [Cond.selects RX4 yX4_isBorne yX4_isBorne, Cond.code yX4_isBorne cX4_isBorne 2 (some .boolean), Cond.methodLink RX4 69 yX4_loadAt, Cond.instanceMethod yX4_loadAt, Cond.selects RX4 yX4_loadAt yX4_loadAt, Cond.code yX4_loadAt cX4_loadAt 4 (some .int), Cond.methodLink RX4 66 yX4_weighs, Cond.instanceMethod yX4_weighs, Cond.selects RX4 yX4_weighs yX4_weighs, Cond.code yX4_weighs cX4_weighs 3 (some .int), Cond.methodLink RX4 72 yX4_bears, Cond.instanceMethod yX4_bears, Cond.selects RX4 yX4_bears yX4_bears, Cond.code yX4_bears cX4_bears 2 (some .int), Cond.methodLink RX4 58 yX4_held, Cond.static yX4_held, Cond.code yX4_held cX4_held 3 (some .int), Cond.methodLink RX4 108 yX4_comesOn, Cond.instanceMethod yX4_comesOn, Cond.selects RX4 yX4_comesOn yX4_comesOn, Cond.code yX4_comesOn cX4_comesOn 2 none, Cond.methodLink RX4 126 yX4_allDry, Cond.instanceMethod yX4_allDry, Cond.selects RX4 yX4_allDry yX4_allDry]
def wsX4_gets_r5 : List Cond := [Cond.code yX4_allDry cX4_allDry 2 none, Cond.methodLink RX4 97 yX4_dries, Cond.instanceMethod yX4_dries, Cond.selects RX4 yX4_dries yX4_dries, Cond.code yX4_dries cX4_dries 3 (some .int), Cond.methodLink RX4 143 yX4_putsBack, Cond.instanceMethod yX4_putsBack, Cond.selects RX4 yX4_putsBack yX4_putsBack, Cond.code yX4_putsBack cX4_putsBack 1 none, Cond.methodLink RX4 150 yX4_orNone, Cond.instanceMethod yX4_orNone, Cond.selects RX4 yX4_orNone yX4_orNone, Cond.code yX4_orNone cX4_orNone 2 (some .int), Cond.constant RX4 36 (-1000000004)]
def wsX4_gets : List Cond := .code yX4_gets cX4_gets 2 (some .int) :: ((wsX4_gets_r1 ++ (wsX4_gets_r2 ++ (wsX4_gets_r3 ++ (wsX4_gets_r4 ++ wsX4_gets_r5)))) ++ wsX40)
def wsX4_dry_r1 : List Cond := [Cond.constant RX4 35 (-1000000001), Cond.methodLink RX4 94 yX4_isThing, Cond.instanceMethod yX4_isThing, Cond.selects RX4 yX4_isThing yX4_isThing, Cond.initialized RX4, Cond.code yX4_isThing cX4_isThing 2 (some .boolean), Cond.fieldLink RX4 9 "BeamSeatsModel" "m" "[I", Cond.methodLink RX4 41 yX4_in, Cond.static yX4_in, Cond.code yX4_in cX4_in 4 (some .boolean), Cond.methodLink RX4 37 yX4_finds, Cond.instanceMethod yX4_finds, Cond.selects RX4 yX4_finds yX4_finds, Cond.code yX4_finds cX4_finds 2 (some .int), Cond.fieldLink RX4 19 "BeamSeatsModel" "found" "[I", Cond.methodLink RX4 140 yX4_thinks, Cond.instanceMethod yX4_thinks, Cond.selects RX4 yX4_thinks yX4_thinks, Cond.code yX4_thinks cX4_thinks 1 none, Cond.fieldLink RX4 16 "BeamSeatsModel" "was" "[I", Cond.methodLink RX4 136 yX4_copyAll, Cond.static yX4_copyAll, Cond.code yX4_copyAll cX4_copyAll 3 none, Cond.methodLink RX4 146 yX4_soIn]
def wsX4_dry_r2 : List Cond := [Cond.instanceMethod yX4_soIn, Cond.selects RX4 yX4_soIn yX4_soIn, Cond.code yX4_soIn cX4_soIn 6 (some .int), Cond.methodLink RX4 45 yX4_it, Cond.instanceMethod yX4_it, Cond.selects RX4 yX4_it yX4_it, Cond.code yX4_it cX4_it 3 (some .int), Cond.methodLink RX4 129 yX4_goes, Cond.instanceMethod yX4_goes, Cond.selects RX4 yX4_goes yX4_goes, Cond.code yX4_goes cX4_goes 4 none, Cond.methodLink RX4 49 yX4_setOf, Cond.instanceMethod yX4_setOf, Cond.selects RX4 yX4_setOf yX4_setOf, Cond.code yX4_setOf cX4_setOf 4 (some .int), Cond.methodLink RX4 123 yX4_passes, Cond.instanceMethod yX4_passes, Cond.selects RX4 yX4_passes yX4_passes, Cond.code yX4_passes cX4_passes 4 none, Cond.methodLink RX4 62 yX4_isOn, Cond.instanceMethod yX4_isOn, Cond.selects RX4 yX4_isOn yX4_isOn, Cond.code yX4_isOn cX4_isOn 2 (some .boolean), Cond.methodLink RX4 116 yX4_getsOff]
def wsX4_dry_r3 : List Cond := [Cond.instanceMethod yX4_getsOff, Cond.selects RX4 yX4_getsOff yX4_getsOff, Cond.code yX4_getsOff cX4_getsOff 3 (some .boolean), Cond.methodLink RX4 55 yX4_others, Cond.instanceMethod yX4_others, Cond.selects RX4 yX4_others yX4_others, Cond.code yX4_others cX4_others 2 (some .int), Cond.methodLink RX4 52 yX4_bits, Cond.static yX4_bits, Cond.code yX4_bits cX4_bits 3 (some .int), Cond.methodLink RX4 112 yX4_goesOff, Cond.instanceMethod yX4_goesOff, Cond.selects RX4 yX4_goesOff yX4_goesOff, Cond.code yX4_goesOff cX4_goesOff 3 none, Cond.methodLink RX4 82 yX4_put, Cond.instanceMethod yX4_put, Cond.selects RX4 yX4_put yX4_put, Cond.code yX4_put cX4_put 4 none, Cond.methodLink RX4 120 yX4_getsOn, Cond.instanceMethod yX4_getsOn, Cond.selects RX4 yX4_getsOn yX4_getsOn, Cond.code yX4_getsOn cX4_getsOn 2 (some .boolean), Cond.methodLink RX4 105 yX4_isBorne, Cond.instanceMethod yX4_isBorne]
def wsX4_dry_r4 : List Cond := [Cond.selects RX4 yX4_isBorne yX4_isBorne, Cond.code yX4_isBorne cX4_isBorne 2 (some .boolean), Cond.methodLink RX4 69 yX4_loadAt, Cond.instanceMethod yX4_loadAt, Cond.selects RX4 yX4_loadAt yX4_loadAt, Cond.code yX4_loadAt cX4_loadAt 4 (some .int), Cond.methodLink RX4 66 yX4_weighs, Cond.instanceMethod yX4_weighs, Cond.selects RX4 yX4_weighs yX4_weighs, Cond.code yX4_weighs cX4_weighs 3 (some .int), Cond.methodLink RX4 72 yX4_bears, Cond.instanceMethod yX4_bears, Cond.selects RX4 yX4_bears yX4_bears, Cond.code yX4_bears cX4_bears 2 (some .int), Cond.methodLink RX4 58 yX4_held, Cond.static yX4_held, Cond.code yX4_held cX4_held 3 (some .int), Cond.methodLink RX4 108 yX4_comesOn, Cond.instanceMethod yX4_comesOn, Cond.selects RX4 yX4_comesOn yX4_comesOn, Cond.code yX4_comesOn cX4_comesOn 2 none, Cond.methodLink RX4 126 yX4_allDry, Cond.instanceMethod yX4_allDry, Cond.selects RX4 yX4_allDry yX4_allDry]
def wsX4_dry_r5 : List Cond := [Cond.code yX4_allDry cX4_allDry 2 none, Cond.methodLink RX4 97 yX4_dries, Cond.instanceMethod yX4_dries, Cond.selects RX4 yX4_dries yX4_dries, Cond.code yX4_dries cX4_dries 3 (some .int), Cond.methodLink RX4 143 yX4_putsBack, Cond.instanceMethod yX4_putsBack, Cond.selects RX4 yX4_putsBack yX4_putsBack, Cond.code yX4_putsBack cX4_putsBack 1 none, Cond.methodLink RX4 150 yX4_orNone, Cond.instanceMethod yX4_orNone, Cond.selects RX4 yX4_orNone yX4_orNone, Cond.code yX4_orNone cX4_orNone 2 (some .int), Cond.constant RX4 36 (-1000000004)]
def wsX4_dry : List Cond := .code yX4_dry cX4_dry 2 (some .int) :: ((wsX4_dry_r1 ++ (wsX4_dry_r2 ++ (wsX4_dry_r3 ++ (wsX4_dry_r4 ++ wsX4_dry_r5)))) ++ wsX40)
def wsX4_lost_r1 : List Cond := [Cond.constant RX4 35 (-1000000001), Cond.methodLink RX4 94 yX4_isThing, Cond.instanceMethod yX4_isThing, Cond.selects RX4 yX4_isThing yX4_isThing, Cond.initialized RX4, Cond.code yX4_isThing cX4_isThing 2 (some .boolean), Cond.fieldLink RX4 9 "BeamSeatsModel" "m" "[I", Cond.methodLink RX4 41 yX4_in, Cond.static yX4_in, Cond.code yX4_in cX4_in 4 (some .boolean), Cond.methodLink RX4 37 yX4_finds, Cond.instanceMethod yX4_finds, Cond.selects RX4 yX4_finds yX4_finds, Cond.code yX4_finds cX4_finds 2 (some .int), Cond.fieldLink RX4 19 "BeamSeatsModel" "found" "[I", Cond.methodLink RX4 140 yX4_thinks, Cond.instanceMethod yX4_thinks, Cond.selects RX4 yX4_thinks yX4_thinks, Cond.code yX4_thinks cX4_thinks 1 none, Cond.fieldLink RX4 16 "BeamSeatsModel" "was" "[I", Cond.methodLink RX4 136 yX4_copyAll, Cond.static yX4_copyAll, Cond.code yX4_copyAll cX4_copyAll 3 none, Cond.methodLink RX4 146 yX4_soIn]
def wsX4_lost_r2 : List Cond := [Cond.instanceMethod yX4_soIn, Cond.selects RX4 yX4_soIn yX4_soIn, Cond.code yX4_soIn cX4_soIn 6 (some .int), Cond.methodLink RX4 45 yX4_it, Cond.instanceMethod yX4_it, Cond.selects RX4 yX4_it yX4_it, Cond.code yX4_it cX4_it 3 (some .int), Cond.methodLink RX4 129 yX4_goes, Cond.instanceMethod yX4_goes, Cond.selects RX4 yX4_goes yX4_goes, Cond.code yX4_goes cX4_goes 4 none, Cond.methodLink RX4 49 yX4_setOf, Cond.instanceMethod yX4_setOf, Cond.selects RX4 yX4_setOf yX4_setOf, Cond.code yX4_setOf cX4_setOf 4 (some .int), Cond.methodLink RX4 123 yX4_passes, Cond.instanceMethod yX4_passes, Cond.selects RX4 yX4_passes yX4_passes, Cond.code yX4_passes cX4_passes 4 none, Cond.methodLink RX4 62 yX4_isOn, Cond.instanceMethod yX4_isOn, Cond.selects RX4 yX4_isOn yX4_isOn, Cond.code yX4_isOn cX4_isOn 2 (some .boolean), Cond.methodLink RX4 116 yX4_getsOff]
def wsX4_lost_r3 : List Cond := [Cond.instanceMethod yX4_getsOff, Cond.selects RX4 yX4_getsOff yX4_getsOff, Cond.code yX4_getsOff cX4_getsOff 3 (some .boolean), Cond.methodLink RX4 55 yX4_others, Cond.instanceMethod yX4_others, Cond.selects RX4 yX4_others yX4_others, Cond.code yX4_others cX4_others 2 (some .int), Cond.methodLink RX4 52 yX4_bits, Cond.static yX4_bits, Cond.code yX4_bits cX4_bits 3 (some .int), Cond.methodLink RX4 112 yX4_goesOff, Cond.instanceMethod yX4_goesOff, Cond.selects RX4 yX4_goesOff yX4_goesOff, Cond.code yX4_goesOff cX4_goesOff 3 none, Cond.methodLink RX4 82 yX4_put, Cond.instanceMethod yX4_put, Cond.selects RX4 yX4_put yX4_put, Cond.code yX4_put cX4_put 4 none, Cond.methodLink RX4 120 yX4_getsOn, Cond.instanceMethod yX4_getsOn, Cond.selects RX4 yX4_getsOn yX4_getsOn, Cond.code yX4_getsOn cX4_getsOn 2 (some .boolean), Cond.methodLink RX4 105 yX4_isBorne, Cond.instanceMethod yX4_isBorne]
def wsX4_lost_r4 : List Cond := [Cond.selects RX4 yX4_isBorne yX4_isBorne, Cond.code yX4_isBorne cX4_isBorne 2 (some .boolean), Cond.methodLink RX4 69 yX4_loadAt, Cond.instanceMethod yX4_loadAt, Cond.selects RX4 yX4_loadAt yX4_loadAt, Cond.code yX4_loadAt cX4_loadAt 4 (some .int), Cond.methodLink RX4 66 yX4_weighs, Cond.instanceMethod yX4_weighs, Cond.selects RX4 yX4_weighs yX4_weighs, Cond.code yX4_weighs cX4_weighs 3 (some .int), Cond.methodLink RX4 72 yX4_bears, Cond.instanceMethod yX4_bears, Cond.selects RX4 yX4_bears yX4_bears, Cond.code yX4_bears cX4_bears 2 (some .int), Cond.methodLink RX4 58 yX4_held, Cond.static yX4_held, Cond.code yX4_held cX4_held 3 (some .int), Cond.methodLink RX4 108 yX4_comesOn, Cond.instanceMethod yX4_comesOn, Cond.selects RX4 yX4_comesOn yX4_comesOn, Cond.code yX4_comesOn cX4_comesOn 2 none, Cond.methodLink RX4 126 yX4_allDry, Cond.instanceMethod yX4_allDry, Cond.selects RX4 yX4_allDry yX4_allDry]
def wsX4_lost_r5 : List Cond := [Cond.code yX4_allDry cX4_allDry 2 none, Cond.methodLink RX4 97 yX4_dries, Cond.instanceMethod yX4_dries, Cond.selects RX4 yX4_dries yX4_dries, Cond.code yX4_dries cX4_dries 3 (some .int), Cond.methodLink RX4 143 yX4_putsBack, Cond.instanceMethod yX4_putsBack, Cond.selects RX4 yX4_putsBack yX4_putsBack, Cond.code yX4_putsBack cX4_putsBack 1 none, Cond.methodLink RX4 150 yX4_orNone, Cond.instanceMethod yX4_orNone, Cond.selects RX4 yX4_orNone yX4_orNone, Cond.code yX4_orNone cX4_orNone 2 (some .int), Cond.constant RX4 36 (-1000000004)]
def wsX4_lost : List Cond := .code yX4_lost cX4_lost 2 (some .int) :: ((wsX4_lost_r1 ++ (wsX4_lost_r2 ++ (wsX4_lost_r3 ++ (wsX4_lost_r4 ++ wsX4_lost_r5)))) ++ wsX40)
def wsX4_arrivesIn_r1 : List Cond := [Cond.methodLink RX4 62 yX4_isOn, Cond.instanceMethod yX4_isOn, Cond.selects RX4 yX4_isOn yX4_isOn, Cond.initialized RX4, Cond.code yX4_isOn cX4_isOn 2 (some .boolean), Cond.methodLink RX4 45 yX4_it, Cond.instanceMethod yX4_it, Cond.selects RX4 yX4_it yX4_it, Cond.code yX4_it cX4_it 3 (some .int), Cond.fieldLink RX4 9 "BeamSeatsModel" "m" "[I", Cond.methodLink RX4 129 yX4_goes, Cond.instanceMethod yX4_goes, Cond.selects RX4 yX4_goes yX4_goes, Cond.code yX4_goes cX4_goes 4 none, Cond.methodLink RX4 49 yX4_setOf, Cond.instanceMethod yX4_setOf, Cond.selects RX4 yX4_setOf yX4_setOf, Cond.code yX4_setOf cX4_setOf 4 (some .int), Cond.methodLink RX4 123 yX4_passes, Cond.instanceMethod yX4_passes, Cond.selects RX4 yX4_passes yX4_passes, Cond.code yX4_passes cX4_passes 4 none, Cond.methodLink RX4 116 yX4_getsOff, Cond.instanceMethod yX4_getsOff]
def wsX4_arrivesIn_r2 : List Cond := [Cond.selects RX4 yX4_getsOff yX4_getsOff, Cond.code yX4_getsOff cX4_getsOff 3 (some .boolean), Cond.methodLink RX4 55 yX4_others, Cond.instanceMethod yX4_others, Cond.selects RX4 yX4_others yX4_others, Cond.code yX4_others cX4_others 2 (some .int), Cond.methodLink RX4 52 yX4_bits, Cond.static yX4_bits, Cond.code yX4_bits cX4_bits 3 (some .int), Cond.methodLink RX4 112 yX4_goesOff, Cond.instanceMethod yX4_goesOff, Cond.selects RX4 yX4_goesOff yX4_goesOff, Cond.code yX4_goesOff cX4_goesOff 3 none, Cond.methodLink RX4 82 yX4_put, Cond.instanceMethod yX4_put, Cond.selects RX4 yX4_put yX4_put, Cond.code yX4_put cX4_put 4 none, Cond.methodLink RX4 120 yX4_getsOn, Cond.instanceMethod yX4_getsOn, Cond.selects RX4 yX4_getsOn yX4_getsOn, Cond.code yX4_getsOn cX4_getsOn 2 (some .boolean), Cond.methodLink RX4 105 yX4_isBorne, Cond.instanceMethod yX4_isBorne, Cond.selects RX4 yX4_isBorne yX4_isBorne]
def wsX4_arrivesIn_r3 : List Cond := [Cond.code yX4_isBorne cX4_isBorne 2 (some .boolean), Cond.methodLink RX4 69 yX4_loadAt, Cond.instanceMethod yX4_loadAt, Cond.selects RX4 yX4_loadAt yX4_loadAt, Cond.code yX4_loadAt cX4_loadAt 4 (some .int), Cond.methodLink RX4 66 yX4_weighs, Cond.instanceMethod yX4_weighs, Cond.selects RX4 yX4_weighs yX4_weighs, Cond.code yX4_weighs cX4_weighs 3 (some .int), Cond.methodLink RX4 72 yX4_bears, Cond.instanceMethod yX4_bears, Cond.selects RX4 yX4_bears yX4_bears, Cond.code yX4_bears cX4_bears 2 (some .int), Cond.methodLink RX4 58 yX4_held, Cond.static yX4_held, Cond.code yX4_held cX4_held 3 (some .int), Cond.methodLink RX4 108 yX4_comesOn, Cond.instanceMethod yX4_comesOn, Cond.selects RX4 yX4_comesOn yX4_comesOn, Cond.code yX4_comesOn cX4_comesOn 2 none, Cond.methodLink RX4 126 yX4_allDry, Cond.instanceMethod yX4_allDry, Cond.selects RX4 yX4_allDry yX4_allDry, Cond.code yX4_allDry cX4_allDry 2 none]
def wsX4_arrivesIn_r4 : List Cond := [Cond.methodLink RX4 97 yX4_dries, Cond.instanceMethod yX4_dries, Cond.selects RX4 yX4_dries yX4_dries, Cond.code yX4_dries cX4_dries 3 (some .int), Cond.methodLink RX4 143 yX4_putsBack, Cond.instanceMethod yX4_putsBack, Cond.selects RX4 yX4_putsBack yX4_putsBack, Cond.code yX4_putsBack cX4_putsBack 1 none, Cond.fieldLink RX4 16 "BeamSeatsModel" "was" "[I", Cond.methodLink RX4 136 yX4_copyAll, Cond.static yX4_copyAll, Cond.code yX4_copyAll cX4_copyAll 3 none]
def wsX4_arrivesIn : List Cond := .code yX4_arrivesIn cX4_arrivesIn 4 (some .int) :: ((wsX4_arrivesIn_r1 ++ (wsX4_arrivesIn_r2 ++ (wsX4_arrivesIn_r3 ++ wsX4_arrivesIn_r4))) ++ wsX40)
def wsX4_arrives_r1 : List Cond := [Cond.constant RX4 35 (-1000000001), Cond.methodLink RX4 94 yX4_isThing, Cond.instanceMethod yX4_isThing, Cond.selects RX4 yX4_isThing yX4_isThing, Cond.initialized RX4, Cond.code yX4_isThing cX4_isThing 2 (some .boolean), Cond.fieldLink RX4 9 "BeamSeatsModel" "m" "[I", Cond.methodLink RX4 41 yX4_in, Cond.static yX4_in, Cond.code yX4_in cX4_in 4 (some .boolean), Cond.methodLink RX4 37 yX4_finds, Cond.instanceMethod yX4_finds, Cond.selects RX4 yX4_finds yX4_finds, Cond.code yX4_finds cX4_finds 2 (some .int), Cond.fieldLink RX4 19 "BeamSeatsModel" "found" "[I", Cond.methodLink RX4 140 yX4_thinks, Cond.instanceMethod yX4_thinks, Cond.selects RX4 yX4_thinks yX4_thinks, Cond.code yX4_thinks cX4_thinks 1 none, Cond.fieldLink RX4 16 "BeamSeatsModel" "was" "[I", Cond.methodLink RX4 136 yX4_copyAll, Cond.static yX4_copyAll, Cond.code yX4_copyAll cX4_copyAll 3 none, Cond.methodLink RX4 153 yX4_arrivesIn]
def wsX4_arrives_r2 : List Cond := [Cond.instanceMethod yX4_arrivesIn, Cond.selects RX4 yX4_arrivesIn yX4_arrivesIn, Cond.code yX4_arrivesIn cX4_arrivesIn 4 (some .int), Cond.methodLink RX4 62 yX4_isOn, Cond.instanceMethod yX4_isOn, Cond.selects RX4 yX4_isOn yX4_isOn, Cond.code yX4_isOn cX4_isOn 2 (some .boolean), Cond.methodLink RX4 45 yX4_it, Cond.instanceMethod yX4_it, Cond.selects RX4 yX4_it yX4_it, Cond.code yX4_it cX4_it 3 (some .int), Cond.methodLink RX4 129 yX4_goes, Cond.instanceMethod yX4_goes, Cond.selects RX4 yX4_goes yX4_goes, Cond.code yX4_goes cX4_goes 4 none, Cond.methodLink RX4 49 yX4_setOf, Cond.instanceMethod yX4_setOf, Cond.selects RX4 yX4_setOf yX4_setOf, Cond.code yX4_setOf cX4_setOf 4 (some .int), Cond.methodLink RX4 123 yX4_passes, Cond.instanceMethod yX4_passes, Cond.selects RX4 yX4_passes yX4_passes, Cond.code yX4_passes cX4_passes 4 none, Cond.methodLink RX4 116 yX4_getsOff]
def wsX4_arrives_r3 : List Cond := [Cond.instanceMethod yX4_getsOff, Cond.selects RX4 yX4_getsOff yX4_getsOff, Cond.code yX4_getsOff cX4_getsOff 3 (some .boolean), Cond.methodLink RX4 55 yX4_others, Cond.instanceMethod yX4_others, Cond.selects RX4 yX4_others yX4_others, Cond.code yX4_others cX4_others 2 (some .int), Cond.methodLink RX4 52 yX4_bits, Cond.static yX4_bits, Cond.code yX4_bits cX4_bits 3 (some .int), Cond.methodLink RX4 112 yX4_goesOff, Cond.instanceMethod yX4_goesOff, Cond.selects RX4 yX4_goesOff yX4_goesOff, Cond.code yX4_goesOff cX4_goesOff 3 none, Cond.methodLink RX4 82 yX4_put, Cond.instanceMethod yX4_put, Cond.selects RX4 yX4_put yX4_put, Cond.code yX4_put cX4_put 4 none, Cond.methodLink RX4 120 yX4_getsOn, Cond.instanceMethod yX4_getsOn, Cond.selects RX4 yX4_getsOn yX4_getsOn, Cond.code yX4_getsOn cX4_getsOn 2 (some .boolean), Cond.methodLink RX4 105 yX4_isBorne, Cond.instanceMethod yX4_isBorne]
def wsX4_arrives_r4 : List Cond := [Cond.selects RX4 yX4_isBorne yX4_isBorne, Cond.code yX4_isBorne cX4_isBorne 2 (some .boolean), Cond.methodLink RX4 69 yX4_loadAt, Cond.instanceMethod yX4_loadAt, Cond.selects RX4 yX4_loadAt yX4_loadAt, Cond.code yX4_loadAt cX4_loadAt 4 (some .int), Cond.methodLink RX4 66 yX4_weighs, Cond.instanceMethod yX4_weighs, Cond.selects RX4 yX4_weighs yX4_weighs, Cond.code yX4_weighs cX4_weighs 3 (some .int), Cond.methodLink RX4 72 yX4_bears, Cond.instanceMethod yX4_bears, Cond.selects RX4 yX4_bears yX4_bears, Cond.code yX4_bears cX4_bears 2 (some .int), Cond.methodLink RX4 58 yX4_held, Cond.static yX4_held, Cond.code yX4_held cX4_held 3 (some .int), Cond.methodLink RX4 108 yX4_comesOn, Cond.instanceMethod yX4_comesOn, Cond.selects RX4 yX4_comesOn yX4_comesOn, Cond.code yX4_comesOn cX4_comesOn 2 none, Cond.methodLink RX4 126 yX4_allDry, Cond.instanceMethod yX4_allDry, Cond.selects RX4 yX4_allDry yX4_allDry]
def wsX4_arrives_r5 : List Cond := [Cond.code yX4_allDry cX4_allDry 2 none, Cond.methodLink RX4 97 yX4_dries, Cond.instanceMethod yX4_dries, Cond.selects RX4 yX4_dries yX4_dries, Cond.code yX4_dries cX4_dries 3 (some .int), Cond.methodLink RX4 143 yX4_putsBack, Cond.instanceMethod yX4_putsBack, Cond.selects RX4 yX4_putsBack yX4_putsBack, Cond.code yX4_putsBack cX4_putsBack 1 none, Cond.methodLink RX4 150 yX4_orNone, Cond.instanceMethod yX4_orNone, Cond.selects RX4 yX4_orNone yX4_orNone, Cond.code yX4_orNone cX4_orNone 2 (some .int), Cond.constant RX4 36 (-1000000004)]
def wsX4_arrives : List Cond := .code yX4_arrives cX4_arrives 2 (some .int) :: ((wsX4_arrives_r1 ++ (wsX4_arrives_r2 ++ (wsX4_arrives_r3 ++ (wsX4_arrives_r4 ++ wsX4_arrives_r5)))) ++ wsX40)
def wsX4_driest_r1 : List Cond := [Cond.fieldLink RX4 9 "BeamSeatsModel" "m" "[I", Cond.methodLink RX4 140 yX4_thinks, Cond.instanceMethod yX4_thinks, Cond.selects RX4 yX4_thinks yX4_thinks, Cond.initialized RX4, Cond.code yX4_thinks cX4_thinks 1 none, Cond.fieldLink RX4 16 "BeamSeatsModel" "was" "[I", Cond.methodLink RX4 136 yX4_copyAll, Cond.static yX4_copyAll, Cond.code yX4_copyAll cX4_copyAll 3 none, Cond.methodLink RX4 133 yX4_goesFor, Cond.instanceMethod yX4_goesFor, Cond.selects RX4 yX4_goesFor yX4_goesFor, Cond.code yX4_goesFor cX4_goesFor 3 none, Cond.methodLink RX4 129 yX4_goes, Cond.instanceMethod yX4_goes, Cond.selects RX4 yX4_goes yX4_goes, Cond.code yX4_goes cX4_goes 4 none, Cond.methodLink RX4 49 yX4_setOf, Cond.instanceMethod yX4_setOf, Cond.selects RX4 yX4_setOf yX4_setOf, Cond.code yX4_setOf cX4_setOf 4 (some .int), Cond.methodLink RX4 45 yX4_it, Cond.instanceMethod yX4_it]
def wsX4_driest_r2 : List Cond := [Cond.selects RX4 yX4_it yX4_it, Cond.code yX4_it cX4_it 3 (some .int), Cond.methodLink RX4 123 yX4_passes, Cond.instanceMethod yX4_passes, Cond.selects RX4 yX4_passes yX4_passes, Cond.code yX4_passes cX4_passes 4 none, Cond.methodLink RX4 62 yX4_isOn, Cond.instanceMethod yX4_isOn, Cond.selects RX4 yX4_isOn yX4_isOn, Cond.code yX4_isOn cX4_isOn 2 (some .boolean), Cond.methodLink RX4 116 yX4_getsOff, Cond.instanceMethod yX4_getsOff, Cond.selects RX4 yX4_getsOff yX4_getsOff, Cond.code yX4_getsOff cX4_getsOff 3 (some .boolean), Cond.methodLink RX4 55 yX4_others, Cond.instanceMethod yX4_others, Cond.selects RX4 yX4_others yX4_others, Cond.code yX4_others cX4_others 2 (some .int), Cond.methodLink RX4 52 yX4_bits, Cond.static yX4_bits, Cond.code yX4_bits cX4_bits 3 (some .int), Cond.methodLink RX4 112 yX4_goesOff, Cond.instanceMethod yX4_goesOff, Cond.selects RX4 yX4_goesOff yX4_goesOff]
def wsX4_driest_r3 : List Cond := [Cond.code yX4_goesOff cX4_goesOff 3 none, Cond.methodLink RX4 82 yX4_put, Cond.instanceMethod yX4_put, Cond.selects RX4 yX4_put yX4_put, Cond.code yX4_put cX4_put 4 none, Cond.methodLink RX4 120 yX4_getsOn, Cond.instanceMethod yX4_getsOn, Cond.selects RX4 yX4_getsOn yX4_getsOn, Cond.code yX4_getsOn cX4_getsOn 2 (some .boolean), Cond.methodLink RX4 105 yX4_isBorne, Cond.instanceMethod yX4_isBorne, Cond.selects RX4 yX4_isBorne yX4_isBorne, Cond.code yX4_isBorne cX4_isBorne 2 (some .boolean), Cond.methodLink RX4 69 yX4_loadAt, Cond.instanceMethod yX4_loadAt, Cond.selects RX4 yX4_loadAt yX4_loadAt, Cond.code yX4_loadAt cX4_loadAt 4 (some .int), Cond.methodLink RX4 66 yX4_weighs, Cond.instanceMethod yX4_weighs, Cond.selects RX4 yX4_weighs yX4_weighs, Cond.code yX4_weighs cX4_weighs 3 (some .int), Cond.methodLink RX4 72 yX4_bears, Cond.instanceMethod yX4_bears, Cond.selects RX4 yX4_bears yX4_bears]
def wsX4_driest_r4 : List Cond := [Cond.code yX4_bears cX4_bears 2 (some .int), Cond.methodLink RX4 58 yX4_held, Cond.static yX4_held, Cond.code yX4_held cX4_held 3 (some .int), Cond.methodLink RX4 108 yX4_comesOn, Cond.instanceMethod yX4_comesOn, Cond.selects RX4 yX4_comesOn yX4_comesOn, Cond.code yX4_comesOn cX4_comesOn 2 none, Cond.methodLink RX4 126 yX4_allDry, Cond.instanceMethod yX4_allDry, Cond.selects RX4 yX4_allDry yX4_allDry, Cond.code yX4_allDry cX4_allDry 2 none, Cond.methodLink RX4 97 yX4_dries, Cond.instanceMethod yX4_dries, Cond.selects RX4 yX4_dries yX4_dries, Cond.code yX4_dries cX4_dries 3 (some .int), Cond.methodLink RX4 143 yX4_putsBack, Cond.instanceMethod yX4_putsBack, Cond.selects RX4 yX4_putsBack yX4_putsBack, Cond.code yX4_putsBack cX4_putsBack 1 none]
def wsX4_driest : List Cond := .code yX4_driest cX4_driest 10 (some .int) :: ((wsX4_driest_r1 ++ (wsX4_driest_r2 ++ (wsX4_driest_r3 ++ wsX4_driest_r4))) ++ wsX40)
def wsX4_speed_r1 : List Cond := [Cond.constant RX4 35 (-1000000001), Cond.methodLink RX4 94 yX4_isThing, Cond.instanceMethod yX4_isThing, Cond.selects RX4 yX4_isThing yX4_isThing, Cond.initialized RX4, Cond.code yX4_isThing cX4_isThing 2 (some .boolean), Cond.fieldLink RX4 9 "BeamSeatsModel" "m" "[I", Cond.methodLink RX4 41 yX4_in, Cond.static yX4_in, Cond.code yX4_in cX4_in 4 (some .boolean), Cond.methodLink RX4 156 yX4_driest, Cond.instanceMethod yX4_driest, Cond.selects RX4 yX4_driest yX4_driest, Cond.code yX4_driest cX4_driest 10 (some .int), Cond.methodLink RX4 140 yX4_thinks, Cond.instanceMethod yX4_thinks, Cond.selects RX4 yX4_thinks yX4_thinks, Cond.code yX4_thinks cX4_thinks 1 none, Cond.fieldLink RX4 16 "BeamSeatsModel" "was" "[I", Cond.methodLink RX4 136 yX4_copyAll, Cond.static yX4_copyAll, Cond.code yX4_copyAll cX4_copyAll 3 none, Cond.methodLink RX4 133 yX4_goesFor, Cond.instanceMethod yX4_goesFor]
def wsX4_speed_r2 : List Cond := [Cond.selects RX4 yX4_goesFor yX4_goesFor, Cond.code yX4_goesFor cX4_goesFor 3 none, Cond.methodLink RX4 129 yX4_goes, Cond.instanceMethod yX4_goes, Cond.selects RX4 yX4_goes yX4_goes, Cond.code yX4_goes cX4_goes 4 none, Cond.methodLink RX4 49 yX4_setOf, Cond.instanceMethod yX4_setOf, Cond.selects RX4 yX4_setOf yX4_setOf, Cond.code yX4_setOf cX4_setOf 4 (some .int), Cond.methodLink RX4 45 yX4_it, Cond.instanceMethod yX4_it, Cond.selects RX4 yX4_it yX4_it, Cond.code yX4_it cX4_it 3 (some .int), Cond.methodLink RX4 123 yX4_passes, Cond.instanceMethod yX4_passes, Cond.selects RX4 yX4_passes yX4_passes, Cond.code yX4_passes cX4_passes 4 none, Cond.methodLink RX4 62 yX4_isOn, Cond.instanceMethod yX4_isOn, Cond.selects RX4 yX4_isOn yX4_isOn, Cond.code yX4_isOn cX4_isOn 2 (some .boolean), Cond.methodLink RX4 116 yX4_getsOff, Cond.instanceMethod yX4_getsOff]
def wsX4_speed_r3 : List Cond := [Cond.selects RX4 yX4_getsOff yX4_getsOff, Cond.code yX4_getsOff cX4_getsOff 3 (some .boolean), Cond.methodLink RX4 55 yX4_others, Cond.instanceMethod yX4_others, Cond.selects RX4 yX4_others yX4_others, Cond.code yX4_others cX4_others 2 (some .int), Cond.methodLink RX4 52 yX4_bits, Cond.static yX4_bits, Cond.code yX4_bits cX4_bits 3 (some .int), Cond.methodLink RX4 112 yX4_goesOff, Cond.instanceMethod yX4_goesOff, Cond.selects RX4 yX4_goesOff yX4_goesOff, Cond.code yX4_goesOff cX4_goesOff 3 none, Cond.methodLink RX4 82 yX4_put, Cond.instanceMethod yX4_put, Cond.selects RX4 yX4_put yX4_put, Cond.code yX4_put cX4_put 4 none, Cond.methodLink RX4 120 yX4_getsOn, Cond.instanceMethod yX4_getsOn, Cond.selects RX4 yX4_getsOn yX4_getsOn, Cond.code yX4_getsOn cX4_getsOn 2 (some .boolean), Cond.methodLink RX4 105 yX4_isBorne, Cond.instanceMethod yX4_isBorne, Cond.selects RX4 yX4_isBorne yX4_isBorne]
def wsX4_speed_r4 : List Cond := [Cond.code yX4_isBorne cX4_isBorne 2 (some .boolean), Cond.methodLink RX4 69 yX4_loadAt, Cond.instanceMethod yX4_loadAt, Cond.selects RX4 yX4_loadAt yX4_loadAt, Cond.code yX4_loadAt cX4_loadAt 4 (some .int), Cond.methodLink RX4 66 yX4_weighs, Cond.instanceMethod yX4_weighs, Cond.selects RX4 yX4_weighs yX4_weighs, Cond.code yX4_weighs cX4_weighs 3 (some .int), Cond.methodLink RX4 72 yX4_bears, Cond.instanceMethod yX4_bears, Cond.selects RX4 yX4_bears yX4_bears, Cond.code yX4_bears cX4_bears 2 (some .int), Cond.methodLink RX4 58 yX4_held, Cond.static yX4_held, Cond.code yX4_held cX4_held 3 (some .int), Cond.methodLink RX4 108 yX4_comesOn, Cond.instanceMethod yX4_comesOn, Cond.selects RX4 yX4_comesOn yX4_comesOn, Cond.code yX4_comesOn cX4_comesOn 2 none, Cond.methodLink RX4 126 yX4_allDry, Cond.instanceMethod yX4_allDry, Cond.selects RX4 yX4_allDry yX4_allDry, Cond.code yX4_allDry cX4_allDry 2 none]
def wsX4_speed_r5 : List Cond := [Cond.methodLink RX4 97 yX4_dries, Cond.instanceMethod yX4_dries, Cond.selects RX4 yX4_dries yX4_dries, Cond.code yX4_dries cX4_dries 3 (some .int), Cond.methodLink RX4 143 yX4_putsBack, Cond.instanceMethod yX4_putsBack, Cond.selects RX4 yX4_putsBack yX4_putsBack, Cond.code yX4_putsBack cX4_putsBack 1 none, Cond.methodLink RX4 37 yX4_finds, Cond.instanceMethod yX4_finds, Cond.selects RX4 yX4_finds yX4_finds, Cond.code yX4_finds cX4_finds 2 (some .int), Cond.fieldLink RX4 19 "BeamSeatsModel" "found" "[I"]
def wsX4_speed : List Cond := .code yX4_speed cX4_speed 3 (some .int) :: ((wsX4_speed_r1 ++ (wsX4_speed_r2 ++ (wsX4_speed_r3 ++ (wsX4_speed_r4 ++ wsX4_speed_r5)))) ++ wsX40)
def wsX4_far_r1 : List Cond := [Cond.constant RX4 35 (-1000000001), Cond.methodLink RX4 94 yX4_isThing, Cond.instanceMethod yX4_isThing, Cond.selects RX4 yX4_isThing yX4_isThing, Cond.initialized RX4, Cond.code yX4_isThing cX4_isThing 2 (some .boolean), Cond.fieldLink RX4 9 "BeamSeatsModel" "m" "[I", Cond.methodLink RX4 41 yX4_in, Cond.static yX4_in, Cond.code yX4_in cX4_in 4 (some .boolean), Cond.methodLink RX4 37 yX4_finds, Cond.instanceMethod yX4_finds, Cond.selects RX4 yX4_finds yX4_finds, Cond.code yX4_finds cX4_finds 2 (some .int), Cond.fieldLink RX4 19 "BeamSeatsModel" "found" "[I", Cond.methodLink RX4 140 yX4_thinks, Cond.instanceMethod yX4_thinks, Cond.selects RX4 yX4_thinks yX4_thinks, Cond.code yX4_thinks cX4_thinks 1 none, Cond.fieldLink RX4 16 "BeamSeatsModel" "was" "[I", Cond.methodLink RX4 136 yX4_copyAll, Cond.static yX4_copyAll, Cond.code yX4_copyAll cX4_copyAll 3 none, Cond.methodLink RX4 82 yX4_put]
def wsX4_far_r2 : List Cond := [Cond.instanceMethod yX4_put, Cond.selects RX4 yX4_put yX4_put, Cond.code yX4_put cX4_put 4 none, Cond.methodLink RX4 133 yX4_goesFor, Cond.instanceMethod yX4_goesFor, Cond.selects RX4 yX4_goesFor yX4_goesFor, Cond.code yX4_goesFor cX4_goesFor 3 none, Cond.methodLink RX4 129 yX4_goes, Cond.instanceMethod yX4_goes, Cond.selects RX4 yX4_goes yX4_goes, Cond.code yX4_goes cX4_goes 4 none, Cond.methodLink RX4 49 yX4_setOf, Cond.instanceMethod yX4_setOf, Cond.selects RX4 yX4_setOf yX4_setOf, Cond.code yX4_setOf cX4_setOf 4 (some .int), Cond.methodLink RX4 45 yX4_it, Cond.instanceMethod yX4_it, Cond.selects RX4 yX4_it yX4_it, Cond.code yX4_it cX4_it 3 (some .int), Cond.methodLink RX4 123 yX4_passes, Cond.instanceMethod yX4_passes, Cond.selects RX4 yX4_passes yX4_passes, Cond.code yX4_passes cX4_passes 4 none, Cond.methodLink RX4 62 yX4_isOn]
def wsX4_far_r3 : List Cond := [Cond.instanceMethod yX4_isOn, Cond.selects RX4 yX4_isOn yX4_isOn, Cond.code yX4_isOn cX4_isOn 2 (some .boolean), Cond.methodLink RX4 116 yX4_getsOff, Cond.instanceMethod yX4_getsOff, Cond.selects RX4 yX4_getsOff yX4_getsOff, Cond.code yX4_getsOff cX4_getsOff 3 (some .boolean), Cond.methodLink RX4 55 yX4_others, Cond.instanceMethod yX4_others, Cond.selects RX4 yX4_others yX4_others, Cond.code yX4_others cX4_others 2 (some .int), Cond.methodLink RX4 52 yX4_bits, Cond.static yX4_bits, Cond.code yX4_bits cX4_bits 3 (some .int), Cond.methodLink RX4 112 yX4_goesOff, Cond.instanceMethod yX4_goesOff, Cond.selects RX4 yX4_goesOff yX4_goesOff, Cond.code yX4_goesOff cX4_goesOff 3 none, Cond.methodLink RX4 120 yX4_getsOn, Cond.instanceMethod yX4_getsOn, Cond.selects RX4 yX4_getsOn yX4_getsOn, Cond.code yX4_getsOn cX4_getsOn 2 (some .boolean), Cond.methodLink RX4 105 yX4_isBorne, Cond.instanceMethod yX4_isBorne]
def wsX4_far_r4 : List Cond := [Cond.selects RX4 yX4_isBorne yX4_isBorne, Cond.code yX4_isBorne cX4_isBorne 2 (some .boolean), Cond.methodLink RX4 69 yX4_loadAt, Cond.instanceMethod yX4_loadAt, Cond.selects RX4 yX4_loadAt yX4_loadAt, Cond.code yX4_loadAt cX4_loadAt 4 (some .int), Cond.methodLink RX4 66 yX4_weighs, Cond.instanceMethod yX4_weighs, Cond.selects RX4 yX4_weighs yX4_weighs, Cond.code yX4_weighs cX4_weighs 3 (some .int), Cond.methodLink RX4 72 yX4_bears, Cond.instanceMethod yX4_bears, Cond.selects RX4 yX4_bears yX4_bears, Cond.code yX4_bears cX4_bears 2 (some .int), Cond.methodLink RX4 58 yX4_held, Cond.static yX4_held, Cond.code yX4_held cX4_held 3 (some .int), Cond.methodLink RX4 108 yX4_comesOn, Cond.instanceMethod yX4_comesOn, Cond.selects RX4 yX4_comesOn yX4_comesOn, Cond.code yX4_comesOn cX4_comesOn 2 none, Cond.methodLink RX4 126 yX4_allDry, Cond.instanceMethod yX4_allDry, Cond.selects RX4 yX4_allDry yX4_allDry]
def wsX4_far_r5 : List Cond := [Cond.code yX4_allDry cX4_allDry 2 none, Cond.methodLink RX4 97 yX4_dries, Cond.instanceMethod yX4_dries, Cond.selects RX4 yX4_dries yX4_dries, Cond.code yX4_dries cX4_dries 3 (some .int), Cond.methodLink RX4 143 yX4_putsBack, Cond.instanceMethod yX4_putsBack, Cond.selects RX4 yX4_putsBack yX4_putsBack, Cond.code yX4_putsBack cX4_putsBack 1 none]
def wsX4_far : List Cond := .code yX4_far cX4_far 7 (some .int) :: ((wsX4_far_r1 ++ (wsX4_far_r2 ++ (wsX4_far_r3 ++ (wsX4_far_r4 ++ wsX4_far_r5)))) ++ wsX40)
def wsX4_kind_r1 : List Cond := [Cond.constant RX4 35 (-1000000001), Cond.methodLink RX4 94 yX4_isThing, Cond.instanceMethod yX4_isThing, Cond.selects RX4 yX4_isThing yX4_isThing, Cond.initialized RX4, Cond.code yX4_isThing cX4_isThing 2 (some .boolean), Cond.fieldLink RX4 9 "BeamSeatsModel" "m" "[I", Cond.methodLink RX4 41 yX4_in, Cond.static yX4_in, Cond.code yX4_in cX4_in 4 (some .boolean), Cond.methodLink RX4 156 yX4_driest, Cond.instanceMethod yX4_driest, Cond.selects RX4 yX4_driest yX4_driest, Cond.code yX4_driest cX4_driest 10 (some .int), Cond.methodLink RX4 140 yX4_thinks, Cond.instanceMethod yX4_thinks, Cond.selects RX4 yX4_thinks yX4_thinks, Cond.code yX4_thinks cX4_thinks 1 none, Cond.fieldLink RX4 16 "BeamSeatsModel" "was" "[I", Cond.methodLink RX4 136 yX4_copyAll, Cond.static yX4_copyAll, Cond.code yX4_copyAll cX4_copyAll 3 none, Cond.methodLink RX4 133 yX4_goesFor, Cond.instanceMethod yX4_goesFor]
def wsX4_kind_r2 : List Cond := [Cond.selects RX4 yX4_goesFor yX4_goesFor, Cond.code yX4_goesFor cX4_goesFor 3 none, Cond.methodLink RX4 129 yX4_goes, Cond.instanceMethod yX4_goes, Cond.selects RX4 yX4_goes yX4_goes, Cond.code yX4_goes cX4_goes 4 none, Cond.methodLink RX4 49 yX4_setOf, Cond.instanceMethod yX4_setOf, Cond.selects RX4 yX4_setOf yX4_setOf, Cond.code yX4_setOf cX4_setOf 4 (some .int), Cond.methodLink RX4 45 yX4_it, Cond.instanceMethod yX4_it, Cond.selects RX4 yX4_it yX4_it, Cond.code yX4_it cX4_it 3 (some .int), Cond.methodLink RX4 123 yX4_passes, Cond.instanceMethod yX4_passes, Cond.selects RX4 yX4_passes yX4_passes, Cond.code yX4_passes cX4_passes 4 none, Cond.methodLink RX4 62 yX4_isOn, Cond.instanceMethod yX4_isOn, Cond.selects RX4 yX4_isOn yX4_isOn, Cond.code yX4_isOn cX4_isOn 2 (some .boolean), Cond.methodLink RX4 116 yX4_getsOff, Cond.instanceMethod yX4_getsOff]
def wsX4_kind_r3 : List Cond := [Cond.selects RX4 yX4_getsOff yX4_getsOff, Cond.code yX4_getsOff cX4_getsOff 3 (some .boolean), Cond.methodLink RX4 55 yX4_others, Cond.instanceMethod yX4_others, Cond.selects RX4 yX4_others yX4_others, Cond.code yX4_others cX4_others 2 (some .int), Cond.methodLink RX4 52 yX4_bits, Cond.static yX4_bits, Cond.code yX4_bits cX4_bits 3 (some .int), Cond.methodLink RX4 112 yX4_goesOff, Cond.instanceMethod yX4_goesOff, Cond.selects RX4 yX4_goesOff yX4_goesOff, Cond.code yX4_goesOff cX4_goesOff 3 none, Cond.methodLink RX4 82 yX4_put, Cond.instanceMethod yX4_put, Cond.selects RX4 yX4_put yX4_put, Cond.code yX4_put cX4_put 4 none, Cond.methodLink RX4 120 yX4_getsOn, Cond.instanceMethod yX4_getsOn, Cond.selects RX4 yX4_getsOn yX4_getsOn, Cond.code yX4_getsOn cX4_getsOn 2 (some .boolean), Cond.methodLink RX4 105 yX4_isBorne, Cond.instanceMethod yX4_isBorne, Cond.selects RX4 yX4_isBorne yX4_isBorne]
def wsX4_kind_r4 : List Cond := [Cond.code yX4_isBorne cX4_isBorne 2 (some .boolean), Cond.methodLink RX4 69 yX4_loadAt, Cond.instanceMethod yX4_loadAt, Cond.selects RX4 yX4_loadAt yX4_loadAt, Cond.code yX4_loadAt cX4_loadAt 4 (some .int), Cond.methodLink RX4 66 yX4_weighs, Cond.instanceMethod yX4_weighs, Cond.selects RX4 yX4_weighs yX4_weighs, Cond.code yX4_weighs cX4_weighs 3 (some .int), Cond.methodLink RX4 72 yX4_bears, Cond.instanceMethod yX4_bears, Cond.selects RX4 yX4_bears yX4_bears, Cond.code yX4_bears cX4_bears 2 (some .int), Cond.methodLink RX4 58 yX4_held, Cond.static yX4_held, Cond.code yX4_held cX4_held 3 (some .int), Cond.methodLink RX4 108 yX4_comesOn, Cond.instanceMethod yX4_comesOn, Cond.selects RX4 yX4_comesOn yX4_comesOn, Cond.code yX4_comesOn cX4_comesOn 2 none, Cond.methodLink RX4 126 yX4_allDry, Cond.instanceMethod yX4_allDry, Cond.selects RX4 yX4_allDry yX4_allDry, Cond.code yX4_allDry cX4_allDry 2 none]
def wsX4_kind_r5 : List Cond := [Cond.methodLink RX4 97 yX4_dries, Cond.instanceMethod yX4_dries, Cond.selects RX4 yX4_dries yX4_dries, Cond.code yX4_dries cX4_dries 3 (some .int), Cond.methodLink RX4 143 yX4_putsBack, Cond.instanceMethod yX4_putsBack, Cond.selects RX4 yX4_putsBack yX4_putsBack, Cond.code yX4_putsBack cX4_putsBack 1 none, Cond.methodLink RX4 37 yX4_finds, Cond.instanceMethod yX4_finds, Cond.selects RX4 yX4_finds yX4_finds, Cond.code yX4_finds cX4_finds 2 (some .int), Cond.fieldLink RX4 19 "BeamSeatsModel" "found" "[I"]
def wsX4_kind : List Cond := .code yX4_kind cX4_kind 3 (some .int) :: ((wsX4_kind_r1 ++ (wsX4_kind_r2 ++ (wsX4_kind_r3 ++ (wsX4_kind_r4 ++ wsX4_kind_r5)))) ++ wsX40)
def wsX4_thick_r1 : List Cond := [Cond.constant RX4 35 (-1000000001), Cond.fieldLink RX4 9 "BeamSeatsModel" "m" "[I", Cond.methodLink RX4 41 yX4_in, Cond.static yX4_in, Cond.initialized RX4, Cond.code yX4_in cX4_in 4 (some .boolean), Cond.methodLink RX4 37 yX4_finds, Cond.instanceMethod yX4_finds, Cond.selects RX4 yX4_finds yX4_finds, Cond.code yX4_finds cX4_finds 2 (some .int), Cond.fieldLink RX4 19 "BeamSeatsModel" "found" "[I", Cond.methodLink RX4 140 yX4_thinks, Cond.instanceMethod yX4_thinks, Cond.selects RX4 yX4_thinks yX4_thinks, Cond.code yX4_thinks cX4_thinks 1 none, Cond.fieldLink RX4 16 "BeamSeatsModel" "was" "[I", Cond.methodLink RX4 136 yX4_copyAll, Cond.static yX4_copyAll, Cond.code yX4_copyAll cX4_copyAll 3 none, Cond.methodLink RX4 133 yX4_goesFor, Cond.instanceMethod yX4_goesFor, Cond.selects RX4 yX4_goesFor yX4_goesFor, Cond.code yX4_goesFor cX4_goesFor 3 none, Cond.methodLink RX4 129 yX4_goes]
def wsX4_thick_r2 : List Cond := [Cond.instanceMethod yX4_goes, Cond.selects RX4 yX4_goes yX4_goes, Cond.code yX4_goes cX4_goes 4 none, Cond.methodLink RX4 49 yX4_setOf, Cond.instanceMethod yX4_setOf, Cond.selects RX4 yX4_setOf yX4_setOf, Cond.code yX4_setOf cX4_setOf 4 (some .int), Cond.methodLink RX4 45 yX4_it, Cond.instanceMethod yX4_it, Cond.selects RX4 yX4_it yX4_it, Cond.code yX4_it cX4_it 3 (some .int), Cond.methodLink RX4 123 yX4_passes, Cond.instanceMethod yX4_passes, Cond.selects RX4 yX4_passes yX4_passes, Cond.code yX4_passes cX4_passes 4 none, Cond.methodLink RX4 62 yX4_isOn, Cond.instanceMethod yX4_isOn, Cond.selects RX4 yX4_isOn yX4_isOn, Cond.code yX4_isOn cX4_isOn 2 (some .boolean), Cond.methodLink RX4 116 yX4_getsOff, Cond.instanceMethod yX4_getsOff, Cond.selects RX4 yX4_getsOff yX4_getsOff, Cond.code yX4_getsOff cX4_getsOff 3 (some .boolean), Cond.methodLink RX4 55 yX4_others]
def wsX4_thick_r3 : List Cond := [Cond.instanceMethod yX4_others, Cond.selects RX4 yX4_others yX4_others, Cond.code yX4_others cX4_others 2 (some .int), Cond.methodLink RX4 52 yX4_bits, Cond.static yX4_bits, Cond.code yX4_bits cX4_bits 3 (some .int), Cond.methodLink RX4 112 yX4_goesOff, Cond.instanceMethod yX4_goesOff, Cond.selects RX4 yX4_goesOff yX4_goesOff, Cond.code yX4_goesOff cX4_goesOff 3 none, Cond.methodLink RX4 82 yX4_put, Cond.instanceMethod yX4_put, Cond.selects RX4 yX4_put yX4_put, Cond.code yX4_put cX4_put 4 none, Cond.methodLink RX4 120 yX4_getsOn, Cond.instanceMethod yX4_getsOn, Cond.selects RX4 yX4_getsOn yX4_getsOn, Cond.code yX4_getsOn cX4_getsOn 2 (some .boolean), Cond.methodLink RX4 105 yX4_isBorne, Cond.instanceMethod yX4_isBorne, Cond.selects RX4 yX4_isBorne yX4_isBorne, Cond.code yX4_isBorne cX4_isBorne 2 (some .boolean), Cond.methodLink RX4 69 yX4_loadAt, Cond.instanceMethod yX4_loadAt]
def wsX4_thick_r4 : List Cond := [Cond.selects RX4 yX4_loadAt yX4_loadAt, Cond.code yX4_loadAt cX4_loadAt 4 (some .int), Cond.methodLink RX4 66 yX4_weighs, Cond.instanceMethod yX4_weighs, Cond.selects RX4 yX4_weighs yX4_weighs, Cond.code yX4_weighs cX4_weighs 3 (some .int), Cond.methodLink RX4 72 yX4_bears, Cond.instanceMethod yX4_bears, Cond.selects RX4 yX4_bears yX4_bears, Cond.code yX4_bears cX4_bears 2 (some .int), Cond.methodLink RX4 58 yX4_held, Cond.static yX4_held, Cond.code yX4_held cX4_held 3 (some .int), Cond.methodLink RX4 108 yX4_comesOn, Cond.instanceMethod yX4_comesOn, Cond.selects RX4 yX4_comesOn yX4_comesOn, Cond.code yX4_comesOn cX4_comesOn 2 none, Cond.methodLink RX4 126 yX4_allDry, Cond.instanceMethod yX4_allDry, Cond.selects RX4 yX4_allDry yX4_allDry, Cond.code yX4_allDry cX4_allDry 2 none, Cond.methodLink RX4 97 yX4_dries, Cond.instanceMethod yX4_dries, Cond.selects RX4 yX4_dries yX4_dries]
def wsX4_thick_r5 : List Cond := [Cond.code yX4_dries cX4_dries 3 (some .int), Cond.methodLink RX4 143 yX4_putsBack, Cond.instanceMethod yX4_putsBack, Cond.selects RX4 yX4_putsBack yX4_putsBack, Cond.code yX4_putsBack cX4_putsBack 1 none, Cond.methodLink RX4 150 yX4_orNone, Cond.instanceMethod yX4_orNone, Cond.selects RX4 yX4_orNone yX4_orNone, Cond.code yX4_orNone cX4_orNone 2 (some .int), Cond.constant RX4 36 (-1000000004)]
def wsX4_thick : List Cond := .code yX4_thick cX4_thick 5 (some .int) :: ((wsX4_thick_r1 ++ (wsX4_thick_r2 ++ (wsX4_thick_r3 ++ (wsX4_thick_r4 ++ wsX4_thick_r5)))) ++ wsX40)
def wsX4_save_r1 : List Cond := [Cond.constant RX4 35 (-1000000001), Cond.fieldLink RX4 9 "BeamSeatsModel" "m" "[I", Cond.methodLink RX4 41 yX4_in, Cond.static yX4_in, Cond.initialized RX4, Cond.code yX4_in cX4_in 4 (some .boolean), Cond.methodLink RX4 37 yX4_finds, Cond.instanceMethod yX4_finds, Cond.selects RX4 yX4_finds yX4_finds, Cond.code yX4_finds cX4_finds 2 (some .int), Cond.fieldLink RX4 19 "BeamSeatsModel" "found" "[I", Cond.methodLink RX4 140 yX4_thinks, Cond.instanceMethod yX4_thinks, Cond.selects RX4 yX4_thinks yX4_thinks, Cond.code yX4_thinks cX4_thinks 1 none, Cond.fieldLink RX4 16 "BeamSeatsModel" "was" "[I", Cond.methodLink RX4 136 yX4_copyAll, Cond.static yX4_copyAll, Cond.code yX4_copyAll cX4_copyAll 3 none, Cond.methodLink RX4 62 yX4_isOn, Cond.instanceMethod yX4_isOn, Cond.selects RX4 yX4_isOn yX4_isOn, Cond.code yX4_isOn cX4_isOn 2 (some .boolean), Cond.methodLink RX4 45 yX4_it]
def wsX4_save_r2 : List Cond := [Cond.instanceMethod yX4_it, Cond.selects RX4 yX4_it yX4_it, Cond.code yX4_it cX4_it 3 (some .int), Cond.methodLink RX4 112 yX4_goesOff, Cond.instanceMethod yX4_goesOff, Cond.selects RX4 yX4_goesOff yX4_goesOff, Cond.code yX4_goesOff cX4_goesOff 3 none, Cond.methodLink RX4 82 yX4_put, Cond.instanceMethod yX4_put, Cond.selects RX4 yX4_put yX4_put, Cond.code yX4_put cX4_put 4 none, Cond.methodLink RX4 133 yX4_goesFor, Cond.instanceMethod yX4_goesFor, Cond.selects RX4 yX4_goesFor yX4_goesFor, Cond.code yX4_goesFor cX4_goesFor 3 none, Cond.methodLink RX4 129 yX4_goes, Cond.instanceMethod yX4_goes, Cond.selects RX4 yX4_goes yX4_goes, Cond.code yX4_goes cX4_goes 4 none, Cond.methodLink RX4 49 yX4_setOf, Cond.instanceMethod yX4_setOf, Cond.selects RX4 yX4_setOf yX4_setOf, Cond.code yX4_setOf cX4_setOf 4 (some .int), Cond.methodLink RX4 123 yX4_passes]
def wsX4_save_r3 : List Cond := [Cond.instanceMethod yX4_passes, Cond.selects RX4 yX4_passes yX4_passes, Cond.code yX4_passes cX4_passes 4 none, Cond.methodLink RX4 116 yX4_getsOff, Cond.instanceMethod yX4_getsOff, Cond.selects RX4 yX4_getsOff yX4_getsOff, Cond.code yX4_getsOff cX4_getsOff 3 (some .boolean), Cond.methodLink RX4 55 yX4_others, Cond.instanceMethod yX4_others, Cond.selects RX4 yX4_others yX4_others, Cond.code yX4_others cX4_others 2 (some .int), Cond.methodLink RX4 52 yX4_bits, Cond.static yX4_bits, Cond.code yX4_bits cX4_bits 3 (some .int), Cond.methodLink RX4 120 yX4_getsOn, Cond.instanceMethod yX4_getsOn, Cond.selects RX4 yX4_getsOn yX4_getsOn, Cond.code yX4_getsOn cX4_getsOn 2 (some .boolean), Cond.methodLink RX4 105 yX4_isBorne, Cond.instanceMethod yX4_isBorne, Cond.selects RX4 yX4_isBorne yX4_isBorne, Cond.code yX4_isBorne cX4_isBorne 2 (some .boolean), Cond.methodLink RX4 69 yX4_loadAt, Cond.instanceMethod yX4_loadAt]
def wsX4_save_r4 : List Cond := [Cond.selects RX4 yX4_loadAt yX4_loadAt, Cond.code yX4_loadAt cX4_loadAt 4 (some .int), Cond.methodLink RX4 66 yX4_weighs, Cond.instanceMethod yX4_weighs, Cond.selects RX4 yX4_weighs yX4_weighs, Cond.code yX4_weighs cX4_weighs 3 (some .int), Cond.methodLink RX4 72 yX4_bears, Cond.instanceMethod yX4_bears, Cond.selects RX4 yX4_bears yX4_bears, Cond.code yX4_bears cX4_bears 2 (some .int), Cond.methodLink RX4 58 yX4_held, Cond.static yX4_held, Cond.code yX4_held cX4_held 3 (some .int), Cond.methodLink RX4 108 yX4_comesOn, Cond.instanceMethod yX4_comesOn, Cond.selects RX4 yX4_comesOn yX4_comesOn, Cond.code yX4_comesOn cX4_comesOn 2 none, Cond.methodLink RX4 126 yX4_allDry, Cond.instanceMethod yX4_allDry, Cond.selects RX4 yX4_allDry yX4_allDry, Cond.code yX4_allDry cX4_allDry 2 none, Cond.methodLink RX4 97 yX4_dries, Cond.instanceMethod yX4_dries, Cond.selects RX4 yX4_dries yX4_dries]
def wsX4_save_r5 : List Cond := [Cond.code yX4_dries cX4_dries 3 (some .int), Cond.methodLink RX4 143 yX4_putsBack, Cond.instanceMethod yX4_putsBack, Cond.selects RX4 yX4_putsBack yX4_putsBack, Cond.code yX4_putsBack cX4_putsBack 1 none, Cond.methodLink RX4 150 yX4_orNone, Cond.instanceMethod yX4_orNone, Cond.selects RX4 yX4_orNone yX4_orNone, Cond.code yX4_orNone cX4_orNone 2 (some .int), Cond.constant RX4 36 (-1000000004)]
def wsX4_save : List Cond := .code yX4_save cX4_save 6 (some .int) :: ((wsX4_save_r1 ++ (wsX4_save_r2 ++ (wsX4_save_r3 ++ (wsX4_save_r4 ++ wsX4_save_r5)))) ++ wsX40)
def wsX4_goal_r1 : List Cond := [Cond.constant RX4 35 (-1000000001), Cond.methodLink RX4 94 yX4_isThing, Cond.instanceMethod yX4_isThing, Cond.selects RX4 yX4_isThing yX4_isThing, Cond.initialized RX4, Cond.code yX4_isThing cX4_isThing 2 (some .boolean), Cond.fieldLink RX4 9 "BeamSeatsModel" "m" "[I", Cond.methodLink RX4 41 yX4_in, Cond.static yX4_in, Cond.code yX4_in cX4_in 4 (some .boolean), Cond.methodLink RX4 37 yX4_finds, Cond.instanceMethod yX4_finds, Cond.selects RX4 yX4_finds yX4_finds, Cond.code yX4_finds cX4_finds 2 (some .int), Cond.fieldLink RX4 19 "BeamSeatsModel" "found" "[I", Cond.methodLink RX4 140 yX4_thinks, Cond.instanceMethod yX4_thinks, Cond.selects RX4 yX4_thinks yX4_thinks, Cond.code yX4_thinks cX4_thinks 1 none, Cond.fieldLink RX4 16 "BeamSeatsModel" "was" "[I", Cond.methodLink RX4 136 yX4_copyAll, Cond.static yX4_copyAll, Cond.code yX4_copyAll cX4_copyAll 3 none, Cond.methodLink RX4 82 yX4_put]
def wsX4_goal_r2 : List Cond := [Cond.instanceMethod yX4_put, Cond.selects RX4 yX4_put yX4_put, Cond.code yX4_put cX4_put 4 none, Cond.methodLink RX4 153 yX4_arrivesIn, Cond.instanceMethod yX4_arrivesIn, Cond.selects RX4 yX4_arrivesIn yX4_arrivesIn, Cond.code yX4_arrivesIn cX4_arrivesIn 4 (some .int), Cond.methodLink RX4 62 yX4_isOn, Cond.instanceMethod yX4_isOn, Cond.selects RX4 yX4_isOn yX4_isOn, Cond.code yX4_isOn cX4_isOn 2 (some .boolean), Cond.methodLink RX4 45 yX4_it, Cond.instanceMethod yX4_it, Cond.selects RX4 yX4_it yX4_it, Cond.code yX4_it cX4_it 3 (some .int), Cond.methodLink RX4 129 yX4_goes, Cond.instanceMethod yX4_goes, Cond.selects RX4 yX4_goes yX4_goes, Cond.code yX4_goes cX4_goes 4 none, Cond.methodLink RX4 49 yX4_setOf, Cond.instanceMethod yX4_setOf, Cond.selects RX4 yX4_setOf yX4_setOf, Cond.code yX4_setOf cX4_setOf 4 (some .int), Cond.methodLink RX4 123 yX4_passes]
def wsX4_goal_r3 : List Cond := [Cond.instanceMethod yX4_passes, Cond.selects RX4 yX4_passes yX4_passes, Cond.code yX4_passes cX4_passes 4 none, Cond.methodLink RX4 116 yX4_getsOff, Cond.instanceMethod yX4_getsOff, Cond.selects RX4 yX4_getsOff yX4_getsOff, Cond.code yX4_getsOff cX4_getsOff 3 (some .boolean), Cond.methodLink RX4 55 yX4_others, Cond.instanceMethod yX4_others, Cond.selects RX4 yX4_others yX4_others, Cond.code yX4_others cX4_others 2 (some .int), Cond.methodLink RX4 52 yX4_bits, Cond.static yX4_bits, Cond.code yX4_bits cX4_bits 3 (some .int), Cond.methodLink RX4 112 yX4_goesOff, Cond.instanceMethod yX4_goesOff, Cond.selects RX4 yX4_goesOff yX4_goesOff, Cond.code yX4_goesOff cX4_goesOff 3 none, Cond.methodLink RX4 120 yX4_getsOn, Cond.instanceMethod yX4_getsOn, Cond.selects RX4 yX4_getsOn yX4_getsOn, Cond.code yX4_getsOn cX4_getsOn 2 (some .boolean), Cond.methodLink RX4 105 yX4_isBorne, Cond.instanceMethod yX4_isBorne]
def wsX4_goal_r4 : List Cond := [Cond.selects RX4 yX4_isBorne yX4_isBorne, Cond.code yX4_isBorne cX4_isBorne 2 (some .boolean), Cond.methodLink RX4 69 yX4_loadAt, Cond.instanceMethod yX4_loadAt, Cond.selects RX4 yX4_loadAt yX4_loadAt, Cond.code yX4_loadAt cX4_loadAt 4 (some .int), Cond.methodLink RX4 66 yX4_weighs, Cond.instanceMethod yX4_weighs, Cond.selects RX4 yX4_weighs yX4_weighs, Cond.code yX4_weighs cX4_weighs 3 (some .int), Cond.methodLink RX4 72 yX4_bears, Cond.instanceMethod yX4_bears, Cond.selects RX4 yX4_bears yX4_bears, Cond.code yX4_bears cX4_bears 2 (some .int), Cond.methodLink RX4 58 yX4_held, Cond.static yX4_held, Cond.code yX4_held cX4_held 3 (some .int), Cond.methodLink RX4 108 yX4_comesOn, Cond.instanceMethod yX4_comesOn, Cond.selects RX4 yX4_comesOn yX4_comesOn, Cond.code yX4_comesOn cX4_comesOn 2 none, Cond.methodLink RX4 126 yX4_allDry, Cond.instanceMethod yX4_allDry, Cond.selects RX4 yX4_allDry yX4_allDry]
def wsX4_goal_r5 : List Cond := [Cond.code yX4_allDry cX4_allDry 2 none, Cond.methodLink RX4 97 yX4_dries, Cond.instanceMethod yX4_dries, Cond.selects RX4 yX4_dries yX4_dries, Cond.code yX4_dries cX4_dries 3 (some .int), Cond.methodLink RX4 143 yX4_putsBack, Cond.instanceMethod yX4_putsBack, Cond.selects RX4 yX4_putsBack yX4_putsBack, Cond.code yX4_putsBack cX4_putsBack 1 none, Cond.methodLink RX4 150 yX4_orNone, Cond.instanceMethod yX4_orNone, Cond.selects RX4 yX4_orNone yX4_orNone, Cond.code yX4_orNone cX4_orNone 2 (some .int), Cond.constant RX4 36 (-1000000004)]
def wsX4_goal : List Cond := .code yX4_goal cX4_goal 7 (some .int) :: ((wsX4_goal_r1 ++ (wsX4_goal_r2 ++ (wsX4_goal_r3 ++ (wsX4_goal_r4 ++ wsX4_goal_r5)))) ++ wsX40)
def wsX4_feed : List Cond := .code yX4_feed cX4_feed 4 (some .int) :: ([.constant RX4 35 (-1000000001), .fieldLink RX4 159 "BeamSeatsModel" "taped" "I", .constant RX4 89 (-1000000002), .fieldLink RX4 22 "BeamSeatsModel" "tape" "[I", .methodLink RX4 41 yX4_in, .static yX4_in, .initialized RX4, .code yX4_in cX4_in 4 (some .boolean), .methodLink RX4 37 yX4_finds, .instanceMethod yX4_finds, .selects RX4 yX4_finds yX4_finds, .code yX4_finds cX4_finds 2 (some .int), .fieldLink RX4 19 "BeamSeatsModel" "found" "[I"] ++ wsX40)
def wsX4_wipe : List Cond := .code yX4_wipe cX4_wipe 2 (some .int) :: ([.fieldLink RX4 159 "BeamSeatsModel" "taped" "I"] ++ wsX40)
def wsX4_isByte : List Cond := .code yX4_isByte cX4_isByte 4 (some .boolean) :: ([.fieldLink RX4 159 "BeamSeatsModel" "taped" "I", .fieldLink RX4 22 "BeamSeatsModel" "tape" "[I", .methodLink RX4 41 yX4_in, .static yX4_in, .initialized RX4, .code yX4_in cX4_in 4 (some .boolean)] ++ wsX40)
def wsX4_isName : List Cond := .code yX4_isName cX4_isName 5 (some .boolean) :: ([.fieldLink RX4 163 "BeamSeatsModel" "NAMES" "[I", .fieldLink RX4 22 "BeamSeatsModel" "tape" "[I", .fieldLink RX4 166 "BeamSeatsModel" "begin" "I"] ++ wsX40)
def wsX4_wordHere : List Cond := .code yX4_wordHere cX4_wordHere 2 (some .int) :: ([.fieldLink RX4 169 "BeamSeatsModel" "at" "I", .fieldLink RX4 166 "BeamSeatsModel" "begin" "I", .methodLink RX4 172 yX4_isName, .instanceMethod yX4_isName, .selects RX4 yX4_isName yX4_isName, .initialized RX4, .code yX4_isName cX4_isName 5 (some .boolean), .fieldLink RX4 163 "BeamSeatsModel" "NAMES" "[I", .fieldLink RX4 22 "BeamSeatsModel" "tape" "[I"] ++ wsX40)
def wsX4_reads : List Cond := .code yX4_reads cX4_reads 1 none :: ([.fieldLink RX4 169 "BeamSeatsModel" "at" "I", .fieldLink RX4 166 "BeamSeatsModel" "begin" "I", .fieldLink RX4 179 "BeamSeatsModel" "value" "I", .fieldLink RX4 159 "BeamSeatsModel" "taped" "I", .fieldLink RX4 182 "BeamSeatsModel" "token" "I", .fieldLink RX4 22 "BeamSeatsModel" "tape" "[I", .methodLink RX4 175 yX4_isByte, .instanceMethod yX4_isByte, .selects RX4 yX4_isByte yX4_isByte, .initialized RX4, .code yX4_isByte cX4_isByte 4 (some .boolean), .methodLink RX4 41 yX4_in, .static yX4_in, .code yX4_in cX4_in 4 (some .boolean), .methodLink RX4 185 yX4_wordHere, .instanceMethod yX4_wordHere, .selects RX4 yX4_wordHere yX4_wordHere, .code yX4_wordHere cX4_wordHere 2 (some .int), .methodLink RX4 172 yX4_isName, .instanceMethod yX4_isName, .selects RX4 yX4_isName yX4_isName, .code yX4_isName cX4_isName 5 (some .boolean), .fieldLink RX4 163 "BeamSeatsModel" "NAMES" "[I"] ++ wsX40)
def wsX4_passesBy_r1 : List Cond := [Cond.fieldLink RX4 188 "BeamSeatsModel" "bad" "Z", Cond.fieldLink RX4 182 "BeamSeatsModel" "token" "I", Cond.methodLink RX4 192 yX4_reads, Cond.instanceMethod yX4_reads, Cond.selects RX4 yX4_reads yX4_reads, Cond.initialized RX4, Cond.code yX4_reads cX4_reads 1 none, Cond.fieldLink RX4 169 "BeamSeatsModel" "at" "I", Cond.fieldLink RX4 166 "BeamSeatsModel" "begin" "I", Cond.fieldLink RX4 179 "BeamSeatsModel" "value" "I", Cond.fieldLink RX4 159 "BeamSeatsModel" "taped" "I", Cond.fieldLink RX4 22 "BeamSeatsModel" "tape" "[I", Cond.methodLink RX4 175 yX4_isByte, Cond.instanceMethod yX4_isByte, Cond.selects RX4 yX4_isByte yX4_isByte, Cond.code yX4_isByte cX4_isByte 4 (some .boolean), Cond.methodLink RX4 41 yX4_in, Cond.static yX4_in, Cond.code yX4_in cX4_in 4 (some .boolean), Cond.methodLink RX4 185 yX4_wordHere, Cond.instanceMethod yX4_wordHere, Cond.selects RX4 yX4_wordHere yX4_wordHere, Cond.code yX4_wordHere cX4_wordHere 2 (some .int), Cond.methodLink RX4 172 yX4_isName]
def wsX4_passesBy_r2 : List Cond := [Cond.instanceMethod yX4_isName, Cond.selects RX4 yX4_isName yX4_isName, Cond.code yX4_isName cX4_isName 5 (some .boolean), Cond.fieldLink RX4 163 "BeamSeatsModel" "NAMES" "[I"]
def wsX4_passesBy : List Cond := .code yX4_passesBy cX4_passesBy 2 (some .boolean) :: ((wsX4_passesBy_r1 ++ wsX4_passesBy_r2) ++ wsX40)
def wsX4_number_r1 : List Cond := [Cond.fieldLink RX4 179 "BeamSeatsModel" "value" "I", Cond.fieldLink RX4 188 "BeamSeatsModel" "bad" "Z", Cond.fieldLink RX4 182 "BeamSeatsModel" "token" "I", Cond.methodLink RX4 41 yX4_in, Cond.static yX4_in, Cond.initialized RX4, Cond.code yX4_in cX4_in 4 (some .boolean), Cond.methodLink RX4 192 yX4_reads, Cond.instanceMethod yX4_reads, Cond.selects RX4 yX4_reads yX4_reads, Cond.code yX4_reads cX4_reads 1 none, Cond.fieldLink RX4 169 "BeamSeatsModel" "at" "I", Cond.fieldLink RX4 166 "BeamSeatsModel" "begin" "I", Cond.fieldLink RX4 159 "BeamSeatsModel" "taped" "I", Cond.fieldLink RX4 22 "BeamSeatsModel" "tape" "[I", Cond.methodLink RX4 175 yX4_isByte, Cond.instanceMethod yX4_isByte, Cond.selects RX4 yX4_isByte yX4_isByte, Cond.code yX4_isByte cX4_isByte 4 (some .boolean), Cond.methodLink RX4 185 yX4_wordHere, Cond.instanceMethod yX4_wordHere, Cond.selects RX4 yX4_wordHere yX4_wordHere, Cond.code yX4_wordHere cX4_wordHere 2 (some .int), Cond.methodLink RX4 172 yX4_isName]
def wsX4_number_r2 : List Cond := [Cond.instanceMethod yX4_isName, Cond.selects RX4 yX4_isName yX4_isName, Cond.code yX4_isName cX4_isName 5 (some .boolean), Cond.fieldLink RX4 163 "BeamSeatsModel" "NAMES" "[I"]
def wsX4_number : List Cond := .code yX4_number cX4_number 4 (some .int) :: ((wsX4_number_r1 ++ wsX4_number_r2) ++ wsX40)
def wsX4_perhaps_r1 : List Cond := [Cond.methodLink RX4 195 yX4_passesBy, Cond.instanceMethod yX4_passesBy, Cond.selects RX4 yX4_passesBy yX4_passesBy, Cond.initialized RX4, Cond.code yX4_passesBy cX4_passesBy 2 (some .boolean), Cond.fieldLink RX4 188 "BeamSeatsModel" "bad" "Z", Cond.fieldLink RX4 182 "BeamSeatsModel" "token" "I", Cond.methodLink RX4 192 yX4_reads, Cond.instanceMethod yX4_reads, Cond.selects RX4 yX4_reads yX4_reads, Cond.code yX4_reads cX4_reads 1 none, Cond.fieldLink RX4 169 "BeamSeatsModel" "at" "I", Cond.fieldLink RX4 166 "BeamSeatsModel" "begin" "I", Cond.fieldLink RX4 179 "BeamSeatsModel" "value" "I", Cond.fieldLink RX4 159 "BeamSeatsModel" "taped" "I", Cond.fieldLink RX4 22 "BeamSeatsModel" "tape" "[I", Cond.methodLink RX4 175 yX4_isByte, Cond.instanceMethod yX4_isByte, Cond.selects RX4 yX4_isByte yX4_isByte, Cond.code yX4_isByte cX4_isByte 4 (some .boolean), Cond.methodLink RX4 41 yX4_in, Cond.static yX4_in, Cond.code yX4_in cX4_in 4 (some .boolean), Cond.methodLink RX4 185 yX4_wordHere]
def wsX4_perhaps_r2 : List Cond := [Cond.instanceMethod yX4_wordHere, Cond.selects RX4 yX4_wordHere yX4_wordHere, Cond.code yX4_wordHere cX4_wordHere 2 (some .int), Cond.methodLink RX4 172 yX4_isName, Cond.instanceMethod yX4_isName, Cond.selects RX4 yX4_isName yX4_isName, Cond.code yX4_isName cX4_isName 5 (some .boolean), Cond.fieldLink RX4 163 "BeamSeatsModel" "NAMES" "[I", Cond.methodLink RX4 198 yX4_number, Cond.instanceMethod yX4_number, Cond.selects RX4 yX4_number yX4_number, Cond.code yX4_number cX4_number 4 (some .int)]
def wsX4_perhaps : List Cond := .code yX4_perhaps cX4_perhaps 5 (some .int) :: ((wsX4_perhaps_r1 ++ wsX4_perhaps_r2) ++ wsX40)
def wsX4_thingItem_r1 : List Cond := [Cond.fieldLink RX4 182 "BeamSeatsModel" "token" "I", Cond.fieldLink RX4 9 "BeamSeatsModel" "m" "[I", Cond.fieldLink RX4 188 "BeamSeatsModel" "bad" "Z", Cond.methodLink RX4 192 yX4_reads, Cond.instanceMethod yX4_reads, Cond.selects RX4 yX4_reads yX4_reads, Cond.initialized RX4, Cond.code yX4_reads cX4_reads 1 none, Cond.fieldLink RX4 169 "BeamSeatsModel" "at" "I", Cond.fieldLink RX4 166 "BeamSeatsModel" "begin" "I", Cond.fieldLink RX4 179 "BeamSeatsModel" "value" "I", Cond.fieldLink RX4 159 "BeamSeatsModel" "taped" "I", Cond.fieldLink RX4 22 "BeamSeatsModel" "tape" "[I", Cond.methodLink RX4 175 yX4_isByte, Cond.instanceMethod yX4_isByte, Cond.selects RX4 yX4_isByte yX4_isByte, Cond.code yX4_isByte cX4_isByte 4 (some .boolean), Cond.methodLink RX4 41 yX4_in, Cond.static yX4_in, Cond.code yX4_in cX4_in 4 (some .boolean), Cond.methodLink RX4 185 yX4_wordHere, Cond.instanceMethod yX4_wordHere, Cond.selects RX4 yX4_wordHere yX4_wordHere, Cond.code yX4_wordHere cX4_wordHere 2 (some .int)]
def wsX4_thingItem_r2 : List Cond := [Cond.methodLink RX4 172 yX4_isName, Cond.instanceMethod yX4_isName, Cond.selects RX4 yX4_isName yX4_isName, Cond.code yX4_isName cX4_isName 5 (some .boolean), Cond.fieldLink RX4 163 "BeamSeatsModel" "NAMES" "[I", Cond.methodLink RX4 198 yX4_number, Cond.instanceMethod yX4_number, Cond.selects RX4 yX4_number yX4_number, Cond.code yX4_number cX4_number 4 (some .int), Cond.methodLink RX4 201 yX4_perhaps, Cond.instanceMethod yX4_perhaps, Cond.selects RX4 yX4_perhaps yX4_perhaps, Cond.code yX4_perhaps cX4_perhaps 5 (some .int), Cond.methodLink RX4 195 yX4_passesBy, Cond.instanceMethod yX4_passesBy, Cond.selects RX4 yX4_passesBy yX4_passesBy, Cond.code yX4_passesBy cX4_passesBy 2 (some .boolean), Cond.methodLink RX4 90 yX4_comesAs, Cond.instanceMethod yX4_comesAs, Cond.selects RX4 yX4_comesAs yX4_comesAs, Cond.code yX4_comesAs cX4_comesAs 7 (some .int), Cond.methodLink RX4 82 yX4_put, Cond.instanceMethod yX4_put, Cond.selects RX4 yX4_put yX4_put]
def wsX4_thingItem_r3 : List Cond := [Cond.code yX4_put cX4_put 4 none]
def wsX4_thingItem : List Cond := .code yX4_thingItem cX4_thingItem 7 none :: ((wsX4_thingItem_r1 ++ (wsX4_thingItem_r2 ++ wsX4_thingItem_r3)) ++ wsX40)
def wsX4_item_r1 : List Cond := [Cond.fieldLink RX4 182 "BeamSeatsModel" "token" "I", Cond.fieldLink RX4 9 "BeamSeatsModel" "m" "[I", Cond.fieldLink RX4 188 "BeamSeatsModel" "bad" "Z", Cond.methodLink RX4 204 yX4_thingItem, Cond.instanceMethod yX4_thingItem, Cond.selects RX4 yX4_thingItem yX4_thingItem, Cond.initialized RX4, Cond.code yX4_thingItem cX4_thingItem 7 none, Cond.methodLink RX4 192 yX4_reads, Cond.instanceMethod yX4_reads, Cond.selects RX4 yX4_reads yX4_reads, Cond.code yX4_reads cX4_reads 1 none, Cond.fieldLink RX4 169 "BeamSeatsModel" "at" "I", Cond.fieldLink RX4 166 "BeamSeatsModel" "begin" "I", Cond.fieldLink RX4 179 "BeamSeatsModel" "value" "I", Cond.fieldLink RX4 159 "BeamSeatsModel" "taped" "I", Cond.fieldLink RX4 22 "BeamSeatsModel" "tape" "[I", Cond.methodLink RX4 175 yX4_isByte, Cond.instanceMethod yX4_isByte, Cond.selects RX4 yX4_isByte yX4_isByte, Cond.code yX4_isByte cX4_isByte 4 (some .boolean), Cond.methodLink RX4 41 yX4_in, Cond.static yX4_in, Cond.code yX4_in cX4_in 4 (some .boolean)]
def wsX4_item_r2 : List Cond := [Cond.methodLink RX4 185 yX4_wordHere, Cond.instanceMethod yX4_wordHere, Cond.selects RX4 yX4_wordHere yX4_wordHere, Cond.code yX4_wordHere cX4_wordHere 2 (some .int), Cond.methodLink RX4 172 yX4_isName, Cond.instanceMethod yX4_isName, Cond.selects RX4 yX4_isName yX4_isName, Cond.code yX4_isName cX4_isName 5 (some .boolean), Cond.fieldLink RX4 163 "BeamSeatsModel" "NAMES" "[I", Cond.methodLink RX4 198 yX4_number, Cond.instanceMethod yX4_number, Cond.selects RX4 yX4_number yX4_number, Cond.code yX4_number cX4_number 4 (some .int), Cond.methodLink RX4 201 yX4_perhaps, Cond.instanceMethod yX4_perhaps, Cond.selects RX4 yX4_perhaps yX4_perhaps, Cond.code yX4_perhaps cX4_perhaps 5 (some .int), Cond.methodLink RX4 195 yX4_passesBy, Cond.instanceMethod yX4_passesBy, Cond.selects RX4 yX4_passesBy yX4_passesBy, Cond.code yX4_passesBy cX4_passesBy 2 (some .boolean), Cond.methodLink RX4 90 yX4_comesAs, Cond.instanceMethod yX4_comesAs, Cond.selects RX4 yX4_comesAs yX4_comesAs]
def wsX4_item_r3 : List Cond := [Cond.code yX4_comesAs cX4_comesAs 7 (some .int), Cond.methodLink RX4 82 yX4_put, Cond.instanceMethod yX4_put, Cond.selects RX4 yX4_put yX4_put, Cond.code yX4_put cX4_put 4 none]
def wsX4_item : List Cond := .code yX4_item cX4_item 1 none :: ((wsX4_item_r1 ++ (wsX4_item_r2 ++ wsX4_item_r3)) ++ wsX40)
def wsX4_island_r1 : List Cond := [Cond.fieldLink RX4 169 "BeamSeatsModel" "at" "I", Cond.fieldLink RX4 188 "BeamSeatsModel" "bad" "Z", Cond.fieldLink RX4 182 "BeamSeatsModel" "token" "I", Cond.fieldLink RX4 159 "BeamSeatsModel" "taped" "I", Cond.fieldLink RX4 166 "BeamSeatsModel" "begin" "I", Cond.methodLink RX4 140 yX4_thinks, Cond.instanceMethod yX4_thinks, Cond.selects RX4 yX4_thinks yX4_thinks, Cond.initialized RX4, Cond.code yX4_thinks cX4_thinks 1 none, Cond.fieldLink RX4 9 "BeamSeatsModel" "m" "[I", Cond.fieldLink RX4 16 "BeamSeatsModel" "was" "[I", Cond.methodLink RX4 136 yX4_copyAll, Cond.static yX4_copyAll, Cond.code yX4_copyAll cX4_copyAll 3 none, Cond.methodLink RX4 192 yX4_reads, Cond.instanceMethod yX4_reads, Cond.selects RX4 yX4_reads yX4_reads, Cond.code yX4_reads cX4_reads 1 none, Cond.fieldLink RX4 179 "BeamSeatsModel" "value" "I", Cond.fieldLink RX4 22 "BeamSeatsModel" "tape" "[I", Cond.methodLink RX4 175 yX4_isByte, Cond.instanceMethod yX4_isByte, Cond.selects RX4 yX4_isByte yX4_isByte]
def wsX4_island_r2 : List Cond := [Cond.code yX4_isByte cX4_isByte 4 (some .boolean), Cond.methodLink RX4 41 yX4_in, Cond.static yX4_in, Cond.code yX4_in cX4_in 4 (some .boolean), Cond.methodLink RX4 185 yX4_wordHere, Cond.instanceMethod yX4_wordHere, Cond.selects RX4 yX4_wordHere yX4_wordHere, Cond.code yX4_wordHere cX4_wordHere 2 (some .int), Cond.methodLink RX4 172 yX4_isName, Cond.instanceMethod yX4_isName, Cond.selects RX4 yX4_isName yX4_isName, Cond.code yX4_isName cX4_isName 5 (some .boolean), Cond.fieldLink RX4 163 "BeamSeatsModel" "NAMES" "[I", Cond.methodLink RX4 207 yX4_item, Cond.instanceMethod yX4_item, Cond.selects RX4 yX4_item yX4_item, Cond.code yX4_item cX4_item 1 none, Cond.methodLink RX4 204 yX4_thingItem, Cond.instanceMethod yX4_thingItem, Cond.selects RX4 yX4_thingItem yX4_thingItem, Cond.code yX4_thingItem cX4_thingItem 7 none, Cond.methodLink RX4 198 yX4_number, Cond.instanceMethod yX4_number, Cond.selects RX4 yX4_number yX4_number]
def wsX4_island_r3 : List Cond := [Cond.code yX4_number cX4_number 4 (some .int), Cond.methodLink RX4 201 yX4_perhaps, Cond.instanceMethod yX4_perhaps, Cond.selects RX4 yX4_perhaps yX4_perhaps, Cond.code yX4_perhaps cX4_perhaps 5 (some .int), Cond.methodLink RX4 195 yX4_passesBy, Cond.instanceMethod yX4_passesBy, Cond.selects RX4 yX4_passesBy yX4_passesBy, Cond.code yX4_passesBy cX4_passesBy 2 (some .boolean), Cond.methodLink RX4 90 yX4_comesAs, Cond.instanceMethod yX4_comesAs, Cond.selects RX4 yX4_comesAs yX4_comesAs, Cond.code yX4_comesAs cX4_comesAs 7 (some .int), Cond.methodLink RX4 82 yX4_put, Cond.instanceMethod yX4_put, Cond.selects RX4 yX4_put yX4_put, Cond.code yX4_put cX4_put 4 none, Cond.methodLink RX4 143 yX4_putsBack, Cond.instanceMethod yX4_putsBack, Cond.selects RX4 yX4_putsBack yX4_putsBack, Cond.code yX4_putsBack cX4_putsBack 1 none]
def wsX4_island : List Cond := .code yX4_island cX4_island 2 (some .int) :: ((wsX4_island_r1 ++ (wsX4_island_r2 ++ wsX4_island_r3)) ++ wsX40)
def wsX4_isSheet : List Cond := .code yX4_isSheet cX4_isSheet 1 (some .boolean) :: ([.methodLink RX4 41 yX4_in, .static yX4_in, .initialized RX4, .code yX4_in cX4_in 4 (some .boolean)])
def wsX4_sheet : List Cond := .code yX4_sheet cX4_sheet 5 (some .int) :: ([.constant RX4 35 (-1000000001), .constant RX4 213 (-1000000007), .fieldLink RX4 25 "BeamSeatsModel" "bitsOf" "[I", .fieldLink RX4 28 "BeamSeatsModel" "sizeOf" "[I", .fieldLink RX4 31 "BeamSeatsModel" "cells" "[J", .methodLink RX4 210 yX4_isSheet, .static yX4_isSheet, .initialized RX4, .code yX4_isSheet cX4_isSheet 1 (some .boolean), .methodLink RX4 41 yX4_in, .static yX4_in, .code yX4_in cX4_in 4 (some .boolean), .methodLink RX4 37 yX4_finds, .instanceMethod yX4_finds, .selects RX4 yX4_finds yX4_finds, .code yX4_finds cX4_finds 2 (some .int), .fieldLink RX4 19 "BeamSeatsModel" "found" "[I"] ++ wsX40)
def wsX4_notThere : List Cond := .code yX4_notThere cX4_notThere 2 (some .int) :: ([.constant RX4 35 (-1000000001), .fieldLink RX4 25 "BeamSeatsModel" "bitsOf" "[I", .constant RX4 214 (-1000000006), .methodLink RX4 210 yX4_isSheet, .static yX4_isSheet, .initialized RX4, .code yX4_isSheet cX4_isSheet 1 (some .boolean), .methodLink RX4 41 yX4_in, .static yX4_in, .code yX4_in cX4_in 4 (some .boolean)] ++ wsX40)
def wsX4_cutTo : List Cond := .code yX4_cutTo cX4_cutTo 3 (some .long) :: ([])
def wsX4_write : List Cond := .code yX4_write cX4_write 8 (some .long) :: ([.fieldLink RX4 28 "BeamSeatsModel" "sizeOf" "[I", .constant RX4 35 (-1000000001), .fieldLink RX4 31 "BeamSeatsModel" "cells" "[J", .fieldLink RX4 25 "BeamSeatsModel" "bitsOf" "[I", .methodLink RX4 215 yX4_notThere, .instanceMethod yX4_notThere, .selects RX4 yX4_notThere yX4_notThere, .initialized RX4, .code yX4_notThere cX4_notThere 2 (some .int), .constant RX4 214 (-1000000006), .methodLink RX4 210 yX4_isSheet, .static yX4_isSheet, .code yX4_isSheet cX4_isSheet 1 (some .boolean), .methodLink RX4 41 yX4_in, .static yX4_in, .code yX4_in cX4_in 4 (some .boolean), .methodLink RX4 37 yX4_finds, .instanceMethod yX4_finds, .selects RX4 yX4_finds yX4_finds, .code yX4_finds cX4_finds 2 (some .int), .fieldLink RX4 19 "BeamSeatsModel" "found" "[I", .methodLink RX4 218 yX4_cutTo, .static yX4_cutTo, .code yX4_cutTo cX4_cutTo 3 (some .long)] ++ wsX40)
def wsX4_notCopied : List Cond := .code yX4_notCopied cX4_notCopied 7 (some .int) :: ([.constant RX4 35 (-1000000001), .fieldLink RX4 25 "BeamSeatsModel" "bitsOf" "[I", .constant RX4 214 (-1000000006), .constant RX4 104 (-1000000003), .fieldLink RX4 28 "BeamSeatsModel" "sizeOf" "[I", .methodLink RX4 210 yX4_isSheet, .static yX4_isSheet, .initialized RX4, .code yX4_isSheet cX4_isSheet 1 (some .boolean), .methodLink RX4 41 yX4_in, .static yX4_in, .code yX4_in cX4_in 4 (some .boolean)] ++ wsX40)
def wsX4_copy : List Cond := .code yX4_copy cX4_copy 9 (some .int) :: ([.fieldLink RX4 31 "BeamSeatsModel" "cells" "[J", .methodLink RX4 222 yX4_notCopied, .instanceMethod yX4_notCopied, .selects RX4 yX4_notCopied yX4_notCopied, .initialized RX4, .code yX4_notCopied cX4_notCopied 7 (some .int), .constant RX4 35 (-1000000001), .fieldLink RX4 25 "BeamSeatsModel" "bitsOf" "[I", .constant RX4 214 (-1000000006), .constant RX4 104 (-1000000003), .fieldLink RX4 28 "BeamSeatsModel" "sizeOf" "[I", .methodLink RX4 210 yX4_isSheet, .static yX4_isSheet, .code yX4_isSheet cX4_isSheet 1 (some .boolean), .methodLink RX4 41 yX4_in, .static yX4_in, .code yX4_in cX4_in 4 (some .boolean), .methodLink RX4 37 yX4_finds, .instanceMethod yX4_finds, .selects RX4 yX4_finds yX4_finds, .code yX4_finds cX4_finds 2 (some .int), .fieldLink RX4 19 "BeamSeatsModel" "found" "[I"] ++ wsX40)
def wsX4_lays_r1 : List Cond := [Cond.fieldLink RX4 28 "BeamSeatsModel" "sizeOf" "[I", Cond.fieldLink RX4 9 "BeamSeatsModel" "m" "[I", Cond.fieldLink RX4 31 "BeamSeatsModel" "cells" "[J", Cond.methodLink RX4 215 yX4_notThere, Cond.instanceMethod yX4_notThere, Cond.selects RX4 yX4_notThere yX4_notThere, Cond.initialized RX4, Cond.code yX4_notThere cX4_notThere 2 (some .int), Cond.constant RX4 35 (-1000000001), Cond.fieldLink RX4 25 "BeamSeatsModel" "bitsOf" "[I", Cond.constant RX4 214 (-1000000006), Cond.methodLink RX4 210 yX4_isSheet, Cond.static yX4_isSheet, Cond.code yX4_isSheet cX4_isSheet 1 (some .boolean), Cond.methodLink RX4 41 yX4_in, Cond.static yX4_in, Cond.code yX4_in cX4_in 4 (some .boolean), Cond.methodLink RX4 37 yX4_finds, Cond.instanceMethod yX4_finds, Cond.selects RX4 yX4_finds yX4_finds, Cond.code yX4_finds cX4_finds 2 (some .int), Cond.fieldLink RX4 19 "BeamSeatsModel" "found" "[I", Cond.methodLink RX4 82 yX4_put, Cond.instanceMethod yX4_put]
def wsX4_lays_r2 : List Cond := [Cond.selects RX4 yX4_put yX4_put, Cond.code yX4_put cX4_put 4 none]
def wsX4_lays : List Cond := .code yX4_lays cX4_lays 5 (some .int) :: ((wsX4_lays_r1 ++ wsX4_lays_r2) ++ wsX40)
def wsX4_notAsked : List Cond := .code yX4_notAsked cX4_notAsked 4 (some .int) :: ([.constant RX4 35 (-1000000001), .methodLink RX4 215 yX4_notThere, .instanceMethod yX4_notThere, .selects RX4 yX4_notThere yX4_notThere, .initialized RX4, .code yX4_notThere cX4_notThere 2 (some .int), .fieldLink RX4 25 "BeamSeatsModel" "bitsOf" "[I", .constant RX4 214 (-1000000006), .methodLink RX4 210 yX4_isSheet, .static yX4_isSheet, .code yX4_isSheet cX4_isSheet 1 (some .boolean), .methodLink RX4 41 yX4_in, .static yX4_in, .code yX4_in cX4_in 4 (some .boolean), .methodLink RX4 94 yX4_isThing, .instanceMethod yX4_isThing, .selects RX4 yX4_isThing yX4_isThing, .code yX4_isThing cX4_isThing 2 (some .boolean), .fieldLink RX4 9 "BeamSeatsModel" "m" "[I"] ++ wsX40)
def wsX4_book_r1 : List Cond := [Cond.fieldLink RX4 28 "BeamSeatsModel" "sizeOf" "[I", Cond.fieldLink RX4 31 "BeamSeatsModel" "cells" "[J", Cond.fieldLink RX4 25 "BeamSeatsModel" "bitsOf" "[I", Cond.methodLink RX4 225 yX4_notAsked, Cond.instanceMethod yX4_notAsked, Cond.selects RX4 yX4_notAsked yX4_notAsked, Cond.initialized RX4, Cond.code yX4_notAsked cX4_notAsked 4 (some .int), Cond.constant RX4 35 (-1000000001), Cond.methodLink RX4 215 yX4_notThere, Cond.instanceMethod yX4_notThere, Cond.selects RX4 yX4_notThere yX4_notThere, Cond.code yX4_notThere cX4_notThere 2 (some .int), Cond.constant RX4 214 (-1000000006), Cond.methodLink RX4 210 yX4_isSheet, Cond.static yX4_isSheet, Cond.code yX4_isSheet cX4_isSheet 1 (some .boolean), Cond.methodLink RX4 41 yX4_in, Cond.static yX4_in, Cond.code yX4_in cX4_in 4 (some .boolean), Cond.methodLink RX4 94 yX4_isThing, Cond.instanceMethod yX4_isThing, Cond.selects RX4 yX4_isThing yX4_isThing, Cond.code yX4_isThing cX4_isThing 2 (some .boolean)]
def wsX4_book_r2 : List Cond := [Cond.fieldLink RX4 9 "BeamSeatsModel" "m" "[I", Cond.methodLink RX4 37 yX4_finds, Cond.instanceMethod yX4_finds, Cond.selects RX4 yX4_finds yX4_finds, Cond.code yX4_finds cX4_finds 2 (some .int), Cond.fieldLink RX4 19 "BeamSeatsModel" "found" "[I", Cond.methodLink RX4 140 yX4_thinks, Cond.instanceMethod yX4_thinks, Cond.selects RX4 yX4_thinks yX4_thinks, Cond.code yX4_thinks cX4_thinks 1 none, Cond.fieldLink RX4 16 "BeamSeatsModel" "was" "[I", Cond.methodLink RX4 136 yX4_copyAll, Cond.static yX4_copyAll, Cond.code yX4_copyAll cX4_copyAll 3 none, Cond.methodLink RX4 45 yX4_it, Cond.instanceMethod yX4_it, Cond.selects RX4 yX4_it yX4_it, Cond.code yX4_it cX4_it 3 (some .int), Cond.methodLink RX4 218 yX4_cutTo, Cond.static yX4_cutTo, Cond.code yX4_cutTo cX4_cutTo 3 (some .long), Cond.methodLink RX4 129 yX4_goes, Cond.instanceMethod yX4_goes, Cond.selects RX4 yX4_goes yX4_goes]
def wsX4_book_r3 : List Cond := [Cond.code yX4_goes cX4_goes 4 none, Cond.methodLink RX4 49 yX4_setOf, Cond.instanceMethod yX4_setOf, Cond.selects RX4 yX4_setOf yX4_setOf, Cond.code yX4_setOf cX4_setOf 4 (some .int), Cond.methodLink RX4 123 yX4_passes, Cond.instanceMethod yX4_passes, Cond.selects RX4 yX4_passes yX4_passes, Cond.code yX4_passes cX4_passes 4 none, Cond.methodLink RX4 62 yX4_isOn, Cond.instanceMethod yX4_isOn, Cond.selects RX4 yX4_isOn yX4_isOn, Cond.code yX4_isOn cX4_isOn 2 (some .boolean), Cond.methodLink RX4 116 yX4_getsOff, Cond.instanceMethod yX4_getsOff, Cond.selects RX4 yX4_getsOff yX4_getsOff, Cond.code yX4_getsOff cX4_getsOff 3 (some .boolean), Cond.methodLink RX4 55 yX4_others, Cond.instanceMethod yX4_others, Cond.selects RX4 yX4_others yX4_others, Cond.code yX4_others cX4_others 2 (some .int), Cond.methodLink RX4 52 yX4_bits, Cond.static yX4_bits, Cond.code yX4_bits cX4_bits 3 (some .int)]
def wsX4_book_r4 : List Cond := [Cond.methodLink RX4 112 yX4_goesOff, Cond.instanceMethod yX4_goesOff, Cond.selects RX4 yX4_goesOff yX4_goesOff, Cond.code yX4_goesOff cX4_goesOff 3 none, Cond.methodLink RX4 82 yX4_put, Cond.instanceMethod yX4_put, Cond.selects RX4 yX4_put yX4_put, Cond.code yX4_put cX4_put 4 none, Cond.methodLink RX4 120 yX4_getsOn, Cond.instanceMethod yX4_getsOn, Cond.selects RX4 yX4_getsOn yX4_getsOn, Cond.code yX4_getsOn cX4_getsOn 2 (some .boolean), Cond.methodLink RX4 105 yX4_isBorne, Cond.instanceMethod yX4_isBorne, Cond.selects RX4 yX4_isBorne yX4_isBorne, Cond.code yX4_isBorne cX4_isBorne 2 (some .boolean), Cond.methodLink RX4 69 yX4_loadAt, Cond.instanceMethod yX4_loadAt, Cond.selects RX4 yX4_loadAt yX4_loadAt, Cond.code yX4_loadAt cX4_loadAt 4 (some .int), Cond.methodLink RX4 66 yX4_weighs, Cond.instanceMethod yX4_weighs, Cond.selects RX4 yX4_weighs yX4_weighs, Cond.code yX4_weighs cX4_weighs 3 (some .int)]
def wsX4_book_r5 : List Cond := [Cond.methodLink RX4 72 yX4_bears, Cond.instanceMethod yX4_bears, Cond.selects RX4 yX4_bears yX4_bears, Cond.code yX4_bears cX4_bears 2 (some .int), Cond.methodLink RX4 58 yX4_held, Cond.static yX4_held, Cond.code yX4_held cX4_held 3 (some .int), Cond.methodLink RX4 108 yX4_comesOn, Cond.instanceMethod yX4_comesOn, Cond.selects RX4 yX4_comesOn yX4_comesOn, Cond.code yX4_comesOn cX4_comesOn 2 none, Cond.methodLink RX4 126 yX4_allDry, Cond.instanceMethod yX4_allDry, Cond.selects RX4 yX4_allDry yX4_allDry, Cond.code yX4_allDry cX4_allDry 2 none, Cond.methodLink RX4 97 yX4_dries, Cond.instanceMethod yX4_dries, Cond.selects RX4 yX4_dries yX4_dries, Cond.code yX4_dries cX4_dries 3 (some .int), Cond.methodLink RX4 143 yX4_putsBack, Cond.instanceMethod yX4_putsBack, Cond.selects RX4 yX4_putsBack yX4_putsBack, Cond.code yX4_putsBack cX4_putsBack 1 none]
def wsX4_book : List Cond := .code yX4_book cX4_book 5 (some .int) :: ((wsX4_book_r1 ++ (wsX4_book_r2 ++ (wsX4_book_r3 ++ (wsX4_book_r4 ++ wsX4_book_r5)))) ++ wsX40)
def wsX4_isBook_r1 : List Cond := [Cond.fieldLink RX4 28 "BeamSeatsModel" "sizeOf" "[I", Cond.fieldLink RX4 31 "BeamSeatsModel" "cells" "[J", Cond.methodLink RX4 45 yX4_it, Cond.instanceMethod yX4_it, Cond.selects RX4 yX4_it yX4_it, Cond.initialized RX4, Cond.code yX4_it cX4_it 3 (some .int), Cond.fieldLink RX4 9 "BeamSeatsModel" "m" "[I", Cond.methodLink RX4 129 yX4_goes, Cond.instanceMethod yX4_goes, Cond.selects RX4 yX4_goes yX4_goes, Cond.code yX4_goes cX4_goes 4 none, Cond.methodLink RX4 49 yX4_setOf, Cond.instanceMethod yX4_setOf, Cond.selects RX4 yX4_setOf yX4_setOf, Cond.code yX4_setOf cX4_setOf 4 (some .int), Cond.methodLink RX4 123 yX4_passes, Cond.instanceMethod yX4_passes, Cond.selects RX4 yX4_passes yX4_passes, Cond.code yX4_passes cX4_passes 4 none, Cond.methodLink RX4 62 yX4_isOn, Cond.instanceMethod yX4_isOn, Cond.selects RX4 yX4_isOn yX4_isOn, Cond.code yX4_isOn cX4_isOn 2 (some .boolean)]
def wsX4_isBook_r2 : List Cond := [Cond.methodLink RX4 116 yX4_getsOff, Cond.instanceMethod yX4_getsOff, Cond.selects RX4 yX4_getsOff yX4_getsOff, Cond.code yX4_getsOff cX4_getsOff 3 (some .boolean), Cond.methodLink RX4 55 yX4_others, Cond.instanceMethod yX4_others, Cond.selects RX4 yX4_others yX4_others, Cond.code yX4_others cX4_others 2 (some .int), Cond.methodLink RX4 52 yX4_bits, Cond.static yX4_bits, Cond.code yX4_bits cX4_bits 3 (some .int), Cond.methodLink RX4 112 yX4_goesOff, Cond.instanceMethod yX4_goesOff, Cond.selects RX4 yX4_goesOff yX4_goesOff, Cond.code yX4_goesOff cX4_goesOff 3 none, Cond.methodLink RX4 82 yX4_put, Cond.instanceMethod yX4_put, Cond.selects RX4 yX4_put yX4_put, Cond.code yX4_put cX4_put 4 none, Cond.methodLink RX4 120 yX4_getsOn, Cond.instanceMethod yX4_getsOn, Cond.selects RX4 yX4_getsOn yX4_getsOn, Cond.code yX4_getsOn cX4_getsOn 2 (some .boolean), Cond.methodLink RX4 105 yX4_isBorne]
def wsX4_isBook_r3 : List Cond := [Cond.instanceMethod yX4_isBorne, Cond.selects RX4 yX4_isBorne yX4_isBorne, Cond.code yX4_isBorne cX4_isBorne 2 (some .boolean), Cond.methodLink RX4 69 yX4_loadAt, Cond.instanceMethod yX4_loadAt, Cond.selects RX4 yX4_loadAt yX4_loadAt, Cond.code yX4_loadAt cX4_loadAt 4 (some .int), Cond.methodLink RX4 66 yX4_weighs, Cond.instanceMethod yX4_weighs, Cond.selects RX4 yX4_weighs yX4_weighs, Cond.code yX4_weighs cX4_weighs 3 (some .int), Cond.methodLink RX4 72 yX4_bears, Cond.instanceMethod yX4_bears, Cond.selects RX4 yX4_bears yX4_bears, Cond.code yX4_bears cX4_bears 2 (some .int), Cond.methodLink RX4 58 yX4_held, Cond.static yX4_held, Cond.code yX4_held cX4_held 3 (some .int), Cond.methodLink RX4 108 yX4_comesOn, Cond.instanceMethod yX4_comesOn, Cond.selects RX4 yX4_comesOn yX4_comesOn, Cond.code yX4_comesOn cX4_comesOn 2 none, Cond.methodLink RX4 126 yX4_allDry, Cond.instanceMethod yX4_allDry]
def wsX4_isBook_r4 : List Cond := [Cond.selects RX4 yX4_allDry yX4_allDry, Cond.code yX4_allDry cX4_allDry 2 none, Cond.methodLink RX4 97 yX4_dries, Cond.instanceMethod yX4_dries, Cond.selects RX4 yX4_dries yX4_dries, Cond.code yX4_dries cX4_dries 3 (some .int), Cond.methodLink RX4 143 yX4_putsBack, Cond.instanceMethod yX4_putsBack, Cond.selects RX4 yX4_putsBack yX4_putsBack, Cond.code yX4_putsBack cX4_putsBack 1 none, Cond.fieldLink RX4 16 "BeamSeatsModel" "was" "[I", Cond.methodLink RX4 136 yX4_copyAll, Cond.static yX4_copyAll, Cond.code yX4_copyAll cX4_copyAll 3 none]
def wsX4_isBook : List Cond := .code yX4_isBook cX4_isBook 5 (some .boolean) :: ((wsX4_isBook_r1 ++ (wsX4_isBook_r2 ++ (wsX4_isBook_r3 ++ wsX4_isBook_r4))) ++ wsX40)
def wsX4_read_r1 : List Cond := [Cond.fieldLink RX4 9 "BeamSeatsModel" "m" "[I", Cond.methodLink RX4 225 yX4_notAsked, Cond.instanceMethod yX4_notAsked, Cond.selects RX4 yX4_notAsked yX4_notAsked, Cond.initialized RX4, Cond.code yX4_notAsked cX4_notAsked 4 (some .int), Cond.constant RX4 35 (-1000000001), Cond.methodLink RX4 215 yX4_notThere, Cond.instanceMethod yX4_notThere, Cond.selects RX4 yX4_notThere yX4_notThere, Cond.code yX4_notThere cX4_notThere 2 (some .int), Cond.fieldLink RX4 25 "BeamSeatsModel" "bitsOf" "[I", Cond.constant RX4 214 (-1000000006), Cond.methodLink RX4 210 yX4_isSheet, Cond.static yX4_isSheet, Cond.code yX4_isSheet cX4_isSheet 1 (some .boolean), Cond.methodLink RX4 41 yX4_in, Cond.static yX4_in, Cond.code yX4_in cX4_in 4 (some .boolean), Cond.methodLink RX4 94 yX4_isThing, Cond.instanceMethod yX4_isThing, Cond.selects RX4 yX4_isThing yX4_isThing, Cond.code yX4_isThing cX4_isThing 2 (some .boolean), Cond.methodLink RX4 37 yX4_finds]
def wsX4_read_r2 : List Cond := [Cond.instanceMethod yX4_finds, Cond.selects RX4 yX4_finds yX4_finds, Cond.code yX4_finds cX4_finds 2 (some .int), Cond.fieldLink RX4 19 "BeamSeatsModel" "found" "[I", Cond.methodLink RX4 140 yX4_thinks, Cond.instanceMethod yX4_thinks, Cond.selects RX4 yX4_thinks yX4_thinks, Cond.code yX4_thinks cX4_thinks 1 none, Cond.fieldLink RX4 16 "BeamSeatsModel" "was" "[I", Cond.methodLink RX4 136 yX4_copyAll, Cond.static yX4_copyAll, Cond.code yX4_copyAll cX4_copyAll 3 none, Cond.methodLink RX4 82 yX4_put, Cond.instanceMethod yX4_put, Cond.selects RX4 yX4_put yX4_put, Cond.code yX4_put cX4_put 4 none, Cond.methodLink RX4 228 yX4_isBook, Cond.instanceMethod yX4_isBook, Cond.selects RX4 yX4_isBook yX4_isBook, Cond.code yX4_isBook cX4_isBook 5 (some .boolean), Cond.fieldLink RX4 28 "BeamSeatsModel" "sizeOf" "[I", Cond.fieldLink RX4 31 "BeamSeatsModel" "cells" "[J", Cond.methodLink RX4 45 yX4_it, Cond.instanceMethod yX4_it]
def wsX4_read_r3 : List Cond := [Cond.selects RX4 yX4_it yX4_it, Cond.code yX4_it cX4_it 3 (some .int), Cond.methodLink RX4 129 yX4_goes, Cond.instanceMethod yX4_goes, Cond.selects RX4 yX4_goes yX4_goes, Cond.code yX4_goes cX4_goes 4 none, Cond.methodLink RX4 49 yX4_setOf, Cond.instanceMethod yX4_setOf, Cond.selects RX4 yX4_setOf yX4_setOf, Cond.code yX4_setOf cX4_setOf 4 (some .int), Cond.methodLink RX4 123 yX4_passes, Cond.instanceMethod yX4_passes, Cond.selects RX4 yX4_passes yX4_passes, Cond.code yX4_passes cX4_passes 4 none, Cond.methodLink RX4 62 yX4_isOn, Cond.instanceMethod yX4_isOn, Cond.selects RX4 yX4_isOn yX4_isOn, Cond.code yX4_isOn cX4_isOn 2 (some .boolean), Cond.methodLink RX4 116 yX4_getsOff, Cond.instanceMethod yX4_getsOff, Cond.selects RX4 yX4_getsOff yX4_getsOff, Cond.code yX4_getsOff cX4_getsOff 3 (some .boolean), Cond.methodLink RX4 55 yX4_others, Cond.instanceMethod yX4_others]
def wsX4_read_r4 : List Cond := [Cond.selects RX4 yX4_others yX4_others, Cond.code yX4_others cX4_others 2 (some .int), Cond.methodLink RX4 52 yX4_bits, Cond.static yX4_bits, Cond.code yX4_bits cX4_bits 3 (some .int), Cond.methodLink RX4 112 yX4_goesOff, Cond.instanceMethod yX4_goesOff, Cond.selects RX4 yX4_goesOff yX4_goesOff, Cond.code yX4_goesOff cX4_goesOff 3 none, Cond.methodLink RX4 120 yX4_getsOn, Cond.instanceMethod yX4_getsOn, Cond.selects RX4 yX4_getsOn yX4_getsOn, Cond.code yX4_getsOn cX4_getsOn 2 (some .boolean), Cond.methodLink RX4 105 yX4_isBorne, Cond.instanceMethod yX4_isBorne, Cond.selects RX4 yX4_isBorne yX4_isBorne, Cond.code yX4_isBorne cX4_isBorne 2 (some .boolean), Cond.methodLink RX4 69 yX4_loadAt, Cond.instanceMethod yX4_loadAt, Cond.selects RX4 yX4_loadAt yX4_loadAt, Cond.code yX4_loadAt cX4_loadAt 4 (some .int), Cond.methodLink RX4 66 yX4_weighs, Cond.instanceMethod yX4_weighs, Cond.selects RX4 yX4_weighs yX4_weighs]
def wsX4_read_r5 : List Cond := [Cond.code yX4_weighs cX4_weighs 3 (some .int), Cond.methodLink RX4 72 yX4_bears, Cond.instanceMethod yX4_bears, Cond.selects RX4 yX4_bears yX4_bears, Cond.code yX4_bears cX4_bears 2 (some .int), Cond.methodLink RX4 58 yX4_held, Cond.static yX4_held, Cond.code yX4_held cX4_held 3 (some .int), Cond.methodLink RX4 108 yX4_comesOn, Cond.instanceMethod yX4_comesOn, Cond.selects RX4 yX4_comesOn yX4_comesOn, Cond.code yX4_comesOn cX4_comesOn 2 none, Cond.methodLink RX4 126 yX4_allDry, Cond.instanceMethod yX4_allDry, Cond.selects RX4 yX4_allDry yX4_allDry, Cond.code yX4_allDry cX4_allDry 2 none, Cond.methodLink RX4 97 yX4_dries, Cond.instanceMethod yX4_dries, Cond.selects RX4 yX4_dries yX4_dries, Cond.code yX4_dries cX4_dries 3 (some .int), Cond.methodLink RX4 143 yX4_putsBack, Cond.instanceMethod yX4_putsBack, Cond.selects RX4 yX4_putsBack yX4_putsBack, Cond.code yX4_putsBack cX4_putsBack 1 none]
def wsX4_read : List Cond := .code yX4_read cX4_read 6 (some .int) :: ((wsX4_read_r1 ++ (wsX4_read_r2 ++ (wsX4_read_r3 ++ (wsX4_read_r4 ++ wsX4_read_r5)))) ++ wsX40)
def wsX4_image : List Cond := .code yX4_image cX4_image 1 (some .int) :: ([.fieldLink RX4 9 "BeamSeatsModel" "m" "[I", .fieldLink RX4 13 "BeamSeatsModel" "kept" "[I", .fieldLink RX4 231 "BeamSeatsModel" "isKept" "Z", .methodLink RX4 136 yX4_copyAll, .static yX4_copyAll, .initialized RX4, .code yX4_copyAll cX4_copyAll 3 none] ++ wsX40)
def wsX4_undo : List Cond := .code yX4_undo cX4_undo 1 (some .int) :: ([.fieldLink RX4 231 "BeamSeatsModel" "isKept" "Z", .constant RX4 36 (-1000000004), .fieldLink RX4 13 "BeamSeatsModel" "kept" "[I", .fieldLink RX4 9 "BeamSeatsModel" "m" "[I", .methodLink RX4 37 yX4_finds, .instanceMethod yX4_finds, .selects RX4 yX4_finds yX4_finds, .initialized RX4, .code yX4_finds cX4_finds 2 (some .int), .fieldLink RX4 19 "BeamSeatsModel" "found" "[I", .constant RX4 35 (-1000000001), .methodLink RX4 136 yX4_copyAll, .static yX4_copyAll, .code yX4_copyAll cX4_copyAll 3 none] ++ wsX40)
def wsX4_tear : List Cond := .code yX4_tear cX4_tear 2 (some .int) :: ([.fieldLink RX4 231 "BeamSeatsModel" "isKept" "Z"] ++ wsX40)
def wsX4_sums : List Cond := .code yX4_sums cX4_sums 4 (some .int) :: ([.fieldLink RX4 9 "BeamSeatsModel" "m" "[I", .methodLink RX4 45 yX4_it, .instanceMethod yX4_it, .selects RX4 yX4_it yX4_it, .initialized RX4, .code yX4_it cX4_it 3 (some .int)] ++ wsX40)
def wsX4_count : List Cond := .code yX4_count cX4_count 2 (some .int) :: ([.fieldLink RX4 9 "BeamSeatsModel" "m" "[I", .fieldLink RX4 159 "BeamSeatsModel" "taped" "I", .constant RX4 35 (-1000000001), .methodLink RX4 234 yX4_sums, .instanceMethod yX4_sums, .selects RX4 yX4_sums yX4_sums, .initialized RX4, .code yX4_sums cX4_sums 4 (some .int), .methodLink RX4 45 yX4_it, .instanceMethod yX4_it, .selects RX4 yX4_it yX4_it, .code yX4_it cX4_it 3 (some .int), .methodLink RX4 37 yX4_finds, .instanceMethod yX4_finds, .selects RX4 yX4_finds yX4_finds, .code yX4_finds cX4_finds 2 (some .int), .fieldLink RX4 19 "BeamSeatsModel" "found" "[I"] ++ wsX40)
def wsX4_status : List Cond := .code yX4_status cX4_status 4 (some .int) :: ([.constant RX4 35 (-1000000001), .fieldLink RX4 19 "BeamSeatsModel" "found" "[I", .methodLink RX4 41 yX4_in, .static yX4_in, .initialized RX4, .code yX4_in cX4_in 4 (some .boolean), .methodLink RX4 37 yX4_finds, .instanceMethod yX4_finds, .selects RX4 yX4_finds yX4_finds, .code yX4_finds cX4_finds 2 (some .int)] ++ wsX40)
def wsJ9_max_7cf53 : List Cond := .code yJ9_max_7cf53 cJ9_max_7cf53 2 (some .int) :: ([])
def wsJ9_min_7cf53 : List Cond := .code yJ9_min_7cf53 cJ9_min_7cf53 2 (some .int) :: ([])
def wsL_law_r1 : List Cond := [Cond.classLink RL 7 RX3, Cond.instantiable RX3 7, Cond.initialized RX3, Cond.classLink RL 10 RX4, Cond.instantiable RX4 15, Cond.initialized RX4, Cond.constantLong RL 129 (4294967295), Cond.methodLink RL 9 yX3_init, Cond.instanceMethod yX3_init, Cond.code yX3_init cX3_init 2 none, Cond.methodLink RX3 1 objectInit, Cond.instanceMethod objectInit, Cond.code objectInit ⟨#[0xb1]⟩ 1 none, Cond.classLink RX3 7 RX0, Cond.instantiable RX0 13, Cond.initialized RX0, Cond.fieldLink RX3 10 "BeamSeats" "real" "LBeamSeats$Island;", Cond.fieldLink RX3 16 "BeamSeats" "trial" "LBeamSeats$Island;", Cond.fieldLink RX3 19 "BeamSeats" "kept" "LBeamSeats$Island;", Cond.fieldLink RX3 22 "BeamSeats" "isKept" "Z", Cond.classLink RX3 26 RX2, Cond.instantiable RX2 7, Cond.initialized RX2, Cond.fieldLink RX3 29 "BeamSeats" "tape" "LBeamSeats$Tape;"]
def wsL_law_r2 : List Cond := [Cond.classLink RX3 33 RX1, Cond.fieldLink RX3 35 "BeamSeats" "sheets" "[LBeamSeats$Sheet;", Cond.arrayClass .int, Cond.fieldLink RX3 39 "BeamSeats" "findings" "[I", Cond.instantiable RX1 3, Cond.initialized RX1, Cond.instanceMethod yX0_init, Cond.code yX0_init cX0_init 1 none, Cond.methodLink RX0 3 objectInit, Cond.fieldLink RX0 9 "BeamSeats$Island" "second" "I", Cond.fieldLink RX0 15 "BeamSeats$Island" "bearing" "I", Cond.fieldLink RX0 18 "BeamSeats$Island" "speed" "I", Cond.fieldLink RX0 21 "BeamSeats$Island" "thick" "I", Cond.fieldLink RX0 24 "BeamSeats$Island" "size" "I", Cond.fieldLink RX0 27 "BeamSeats$Island" "onSet" "I", Cond.fieldLink RX0 30 "BeamSeats$Island" "lostSet" "I", Cond.fieldLink RX0 33 "BeamSeats$Island" "kinds" "[I", Cond.fieldLink RX0 37 "BeamSeats$Island" "places" "[I", Cond.fieldLink RX0 40 "BeamSeats$Island" "outs" "[I", Cond.fieldLink RX0 43 "BeamSeats$Island" "wets" "[I", Cond.fieldLink RX0 46 "BeamSeats$Island" "goals" "[I", Cond.fieldLink RX0 49 "BeamSeats$Island" "times" "[I", Cond.instanceMethod yX2_init, Cond.code yX2_init cX2_init 1 none]
def wsL_law_r3 : List Cond := [Cond.methodLink RX2 3 objectInit, Cond.arrayClass .byte, Cond.fieldLink RX2 9 "BeamSeats$Tape" "bytes" "[B", Cond.fieldLink RX2 15 "BeamSeats$Tape" "size" "I", Cond.fieldLink RX2 19 "BeamSeats$Tape" "tokens" "[I", Cond.fieldLink RX2 23 "BeamSeats$Tape" "starts" "[I", Cond.fieldLink RX2 26 "BeamSeats$Tape" "values" "[I", Cond.fieldLink RX2 29 "BeamSeats$Tape" "next" "I", Cond.fieldLink RX2 32 "BeamSeats$Tape" "number" "I", Cond.instanceMethod yX1_init, Cond.code yX1_init cX1_init 1 none, Cond.methodLink RX1 3 objectInit, Cond.fieldLink RX1 9 "BeamSeats$Sheet" "bits" "I", Cond.fieldLink RX1 15 "BeamSeats$Sheet" "size" "I", Cond.arrayClass .long, Cond.fieldLink RX1 18 "BeamSeats$Sheet" "numbers" "[J", Cond.methodLink RL 12 yX4_init, Cond.instanceMethod yX4_init, Cond.code yX4_init cX4_init 1 none, Cond.methodLink RX4 3 objectInit, Cond.fieldLink RX4 9 "BeamSeatsModel" "m" "[I", Cond.fieldLink RX4 13 "BeamSeatsModel" "kept" "[I", Cond.fieldLink RX4 16 "BeamSeatsModel" "was" "[I", Cond.fieldLink RX4 19 "BeamSeatsModel" "found" "[I"]
def wsL_law_r4 : List Cond := [Cond.fieldLink RX4 22 "BeamSeatsModel" "tape" "[I", Cond.fieldLink RX4 25 "BeamSeatsModel" "bitsOf" "[I", Cond.fieldLink RX4 28 "BeamSeatsModel" "sizeOf" "[I", Cond.fieldLink RX4 31 "BeamSeatsModel" "cells" "[J", Cond.methodLink RL 13 yX3_beam, Cond.instanceMethod yX3_beam, Cond.selects RX3 yX3_beam yX3_beam, Cond.code yX3_beam cX3_beam 4 (some .int), Cond.fieldLink RX3 48 "BeamSeats$Island" "bearing" "I", Cond.fieldLink RX3 52 "BeamSeats$Island" "speed" "I", Cond.fieldLink RX3 55 "BeamSeats$Island" "thick" "I", Cond.constant RX3 58 (-1000000001), Cond.methodLink RX3 44 yX3_within, Cond.static yX3_within, Cond.code yX3_within cX3_within 3 (some .boolean), Cond.methodLink RX3 59 yX3_found, Cond.instanceMethod yX3_found, Cond.selects RX3 yX3_found yX3_found, Cond.code yX3_found cX3_found 3 (some .int), Cond.methodLink RL 17 yX4_beam, Cond.instanceMethod yX4_beam, Cond.selects RX4 yX4_beam yX4_beam, Cond.code yX4_beam cX4_beam 4 (some .int), Cond.constant RX4 35 (-1000000001)]
def wsL_law_r5 : List Cond := [Cond.methodLink RX4 41 yX4_in, Cond.static yX4_in, Cond.code yX4_in cX4_in 4 (some .boolean), Cond.methodLink RX4 75 yX4_becomes, Cond.instanceMethod yX4_becomes, Cond.selects RX4 yX4_becomes yX4_becomes, Cond.code yX4_becomes cX4_becomes 4 (some .int), Cond.methodLink RX4 37 yX4_finds, Cond.instanceMethod yX4_finds, Cond.selects RX4 yX4_finds yX4_finds, Cond.code yX4_finds cX4_finds 2 (some .int), Cond.methodLink RL 18 yX3_now, Cond.instanceMethod yX3_now, Cond.selects RX3 yX3_now yX3_now, Cond.code yX3_now cX3_now 2 (some .int), Cond.fieldLink RX3 63 "BeamSeats$Island" "second" "I", Cond.fieldLink RX3 66 "BeamSeats$Island" "onSet" "I", Cond.fieldLink RX3 69 "BeamSeats$Island" "lostSet" "I", Cond.methodLink RX3 72 yX0_weightOfAll, Cond.instanceMethod yX0_weightOfAll, Cond.selects RX0 yX0_weightOfAll yX0_weightOfAll, Cond.code yX0_weightOfAll cX0_weightOfAll 3 (some .int), Cond.methodLink RX0 52 yX0_isOn, Cond.instanceMethod yX0_isOn]
def wsL_law_r6 : List Cond := [Cond.selects RX0 yX0_isOn yX0_isOn, Cond.code yX0_isOn cX0_isOn 2 (some .boolean), Cond.methodLink RX0 56 yX0_weightOf, Cond.instanceMethod yX0_weightOf, Cond.selects RX0 yX0_weightOf yX0_weightOf, Cond.code yX0_weightOf cX0_weightOf 3 (some .int), Cond.methodLink RL 22 yX4_now, Cond.instanceMethod yX4_now, Cond.selects RX4 yX4_now yX4_now, Cond.code yX4_now cX4_now 2 (some .int), Cond.methodLink RX4 49 yX4_setOf, Cond.instanceMethod yX4_setOf, Cond.selects RX4 yX4_setOf yX4_setOf, Cond.code yX4_setOf cX4_setOf 4 (some .int), Cond.methodLink RX4 45 yX4_it, Cond.instanceMethod yX4_it, Cond.selects RX4 yX4_it yX4_it, Cond.code yX4_it cX4_it 3 (some .int), Cond.methodLink RX4 78 yX4_allWeighs, Cond.instanceMethod yX4_allWeighs, Cond.selects RX4 yX4_allWeighs yX4_allWeighs, Cond.code yX4_allWeighs cX4_allWeighs 3 (some .int), Cond.methodLink RX4 62 yX4_isOn, Cond.instanceMethod yX4_isOn]
def wsL_law_r7 : List Cond := [Cond.selects RX4 yX4_isOn yX4_isOn, Cond.code yX4_isOn cX4_isOn 2 (some .boolean), Cond.methodLink RX4 66 yX4_weighs, Cond.instanceMethod yX4_weighs, Cond.selects RX4 yX4_weighs yX4_weighs, Cond.code yX4_weighs cX4_weighs 3 (some .int), Cond.methodLink RL 23 yX3_load, Cond.instanceMethod yX3_load, Cond.selects RX3 yX3_load yX3_load, Cond.code yX3_load cX3_load 3 (some .int), Cond.methodLink RX3 76 yX0_bears, Cond.instanceMethod yX0_bears, Cond.selects RX0 yX0_bears yX0_bears, Cond.code yX0_bears cX0_bears 2 (some .int), Cond.methodLink RX0 60 Lib.Math.max.name, Cond.static Lib.Math.max.name, Cond.initialized "java/lang/Math", Cond.code Lib.Math.max.name Lib.Math.max.code 2 (some .int), Cond.methodLink RX3 79 yX0_weightAt, Cond.instanceMethod yX0_weightAt, Cond.selects RX0 yX0_weightAt yX0_weightAt, Cond.code yX0_weightAt cX0_weightAt 4 (some .int), Cond.methodLink RL 26 yX4_load, Cond.instanceMethod yX4_load]
def wsL_law_r8 : List Cond := [Cond.selects RX4 yX4_load yX4_load, Cond.code yX4_load cX4_load 3 (some .int), Cond.methodLink RX4 72 yX4_bears, Cond.instanceMethod yX4_bears, Cond.selects RX4 yX4_bears yX4_bears, Cond.code yX4_bears cX4_bears 2 (some .int), Cond.methodLink RX4 58 yX4_held, Cond.static yX4_held, Cond.code yX4_held cX4_held 3 (some .int), Cond.methodLink RX4 69 yX4_loadAt, Cond.instanceMethod yX4_loadAt, Cond.selects RX4 yX4_loadAt yX4_loadAt, Cond.code yX4_loadAt cX4_loadAt 4 (some .int), Cond.methodLink RL 27 yX3_thing, Cond.instanceMethod yX3_thing, Cond.selects RX3 yX3_thing yX3_thing, Cond.code yX3_thing cX3_thing 3 (some .int), Cond.fieldLink RX3 82 "BeamSeats$Island" "size" "I", Cond.constant RX3 85 (-1000000002), Cond.methodLink RX3 86 yX0_add, Cond.instanceMethod yX0_add, Cond.selects RX0 yX0_add yX0_add, Cond.code yX0_add cX0_add 4 (some .int), Cond.methodLink RL 30 yX4_thing]
def wsL_law_r9 : List Cond := [Cond.instanceMethod yX4_thing, Cond.selects RX4 yX4_thing yX4_thing, Cond.code yX4_thing cX4_thing 3 (some .int), Cond.constant RX4 89 (-1000000002), Cond.methodLink RX4 86 yX4_isBearing, Cond.static yX4_isBearing, Cond.code yX4_isBearing cX4_isBearing 1 (some .boolean), Cond.methodLink RX4 90 yX4_comesAs, Cond.instanceMethod yX4_comesAs, Cond.selects RX4 yX4_comesAs yX4_comesAs, Cond.code yX4_comesAs cX4_comesAs 7 (some .int), Cond.methodLink RX4 82 yX4_put, Cond.instanceMethod yX4_put, Cond.selects RX4 yX4_put yX4_put, Cond.code yX4_put cX4_put 4 none, Cond.methodLink RL 31 yX3_of, Cond.instanceMethod yX3_of, Cond.selects RX3 yX3_of yX3_of, Cond.code yX3_of cX3_of 3 (some .int), Cond.fieldLink RX3 94 "BeamSeats$Island" "kinds" "[I", Cond.fieldLink RX3 97 "BeamSeats$Island" "places" "[I", Cond.fieldLink RX3 100 "BeamSeats$Island" "outs" "[I", Cond.fieldLink RX3 106 "BeamSeats$Island" "wets" "[I", Cond.fieldLink RX3 109 "BeamSeats$Island" "goals" "[I"]
def wsL_law_r10 : List Cond := [Cond.fieldLink RX3 115 "BeamSeats$Island" "times" "[I", Cond.methodLink RX3 90 yX0_has, Cond.instanceMethod yX0_has, Cond.selects RX0 yX0_has yX0_has, Cond.code yX0_has cX0_has 2 (some .boolean), Cond.methodLink RX3 103 yX0_isOn, Cond.methodLink RX3 112 yX0_isLost, Cond.instanceMethod yX0_isLost, Cond.selects RX0 yX0_isLost yX0_isLost, Cond.code yX0_isLost cX0_isLost 2 (some .boolean), Cond.methodLink RX3 118 yX0_weightOf, Cond.methodLink RX3 121 yX0_dries, Cond.instanceMethod yX0_dries, Cond.selects RX0 yX0_dries yX0_dries, Cond.code yX0_dries cX0_dries 3 (some .int), Cond.methodLink RL 34 yX4_of, Cond.instanceMethod yX4_of, Cond.selects RX4 yX4_of yX4_of, Cond.code yX4_of cX4_of 3 (some .int), Cond.methodLink RX4 94 yX4_isThing, Cond.instanceMethod yX4_isThing, Cond.selects RX4 yX4_isThing yX4_isThing, Cond.code yX4_isThing cX4_isThing 2 (some .boolean), Cond.methodLink RX4 97 yX4_dries]
def wsL_law_r11 : List Cond := [Cond.instanceMethod yX4_dries, Cond.selects RX4 yX4_dries yX4_dries, Cond.code yX4_dries cX4_dries 3 (some .int), Cond.methodLink RL 35 yX3_set, Cond.instanceMethod yX3_set, Cond.selects RX3 yX3_set yX3_set, Cond.code yX3_set cX3_set 6 (some .int), Cond.methodLink RX3 124 yX3_rowToSet, Cond.instanceMethod yX3_rowToSet, Cond.selects RX3 yX3_rowToSet yX3_rowToSet, Cond.code yX3_rowToSet cX3_rowToSet 2 (some (.array .int)), Cond.methodLink RX3 128 yX3_mostToSet, Cond.static yX3_mostToSet, Cond.code yX3_mostToSet cX3_mostToSet 1 (some .int), Cond.methodLink RL 39 yX4_set, Cond.instanceMethod yX4_set, Cond.selects RX4 yX4_set yX4_set, Cond.code yX4_set cX4_set 4 (some .int), Cond.methodLink RX4 100 yX4_mostOf, Cond.static yX4_mostOf, Cond.code yX4_mostOf cX4_mostOf 1 (some .int), Cond.methodLink RL 40 yX3_carry, Cond.instanceMethod yX3_carry, Cond.selects RX3 yX3_carry yX3_carry]
def wsL_law_r12 : List Cond := [Cond.code yX3_carry cX3_carry 4 (some .int), Cond.constant RX3 131 (-1000000005), Cond.methodLink RL 43 yX4_carry, Cond.instanceMethod yX4_carry, Cond.selects RX4 yX4_carry yX4_carry, Cond.code yX4_carry cX4_carry 3 (some .int), Cond.constant RX4 103 (-1000000005), Cond.methodLink RL 44 yX3_turn, Cond.instanceMethod yX3_turn, Cond.selects RX3 yX3_turn yX3_turn, Cond.code yX3_turn cX3_turn 4 (some .int), Cond.methodLink RL 47 yX4_turn, Cond.instanceMethod yX4_turn, Cond.selects RX4 yX4_turn yX4_turn, Cond.code yX4_turn cX4_turn 3 (some .int), Cond.methodLink RL 48 yX3_as, Cond.instanceMethod yX3_as, Cond.selects RX3 yX3_as yX3_as, Cond.code yX3_as cX3_as 3 (some .int), Cond.constant RX3 136 (-1000000003), Cond.methodLink RX3 132 yX3_isOfKind, Cond.static yX3_isOfKind, Cond.code yX3_isOfKind cX3_isOfKind 4 (some .boolean), Cond.fieldLink RX3 220 "BeamSeats" "KIND_ABOVE" "[I"]
def wsL_law_r13 : List Cond := [Cond.methodLink RL 51 yX4_as, Cond.instanceMethod yX4_as, Cond.selects RX4 yX4_as yX4_as, Cond.code yX4_as cX4_as 5 (some .int), Cond.constant RX4 104 (-1000000003), Cond.methodLink RL 52 yX3_lay, Cond.instanceMethod yX3_lay, Cond.selects RX3 yX3_lay yX3_lay, Cond.code yX3_lay cX3_lay 2 (some .int), Cond.methodLink RX3 137 yX0_isBorne, Cond.instanceMethod yX0_isBorne, Cond.selects RX0 yX0_isBorne yX0_isBorne, Cond.code yX0_isBorne cX0_isBorne 2 (some .boolean), Cond.methodLink RX0 66 yX0_weightAt, Cond.methodLink RX0 69 yX0_bears, Cond.methodLink RX3 140 yX0_comeOn, Cond.instanceMethod yX0_comeOn, Cond.selects RX0 yX0_comeOn yX0_comeOn, Cond.code yX0_comeOn cX0_comeOn 2 none, Cond.methodLink RX0 77 Lib.Math.min.name, Cond.static Lib.Math.min.name, Cond.code Lib.Math.min.name Lib.Math.min.code 2 (some .int), Cond.methodLink RL 55 yX4_lay, Cond.instanceMethod yX4_lay]
def wsL_law_r14 : List Cond := [Cond.selects RX4 yX4_lay yX4_lay, Cond.code yX4_lay cX4_lay 2 (some .int), Cond.methodLink RX4 105 yX4_isBorne, Cond.instanceMethod yX4_isBorne, Cond.selects RX4 yX4_isBorne yX4_isBorne, Cond.code yX4_isBorne cX4_isBorne 2 (some .boolean), Cond.methodLink RX4 108 yX4_comesOn, Cond.instanceMethod yX4_comesOn, Cond.selects RX4 yX4_comesOn yX4_comesOn, Cond.code yX4_comesOn cX4_comesOn 2 none, Cond.methodLink RL 56 yX3_take, Cond.instanceMethod yX3_take, Cond.selects RX3 yX3_take yX3_take, Cond.code yX3_take cX3_take 2 (some .int), Cond.methodLink RX3 144 yX0_goOff, Cond.instanceMethod yX0_goOff, Cond.selects RX0 yX0_goOff yX0_goOff, Cond.code yX0_goOff cX0_goOff 2 none, Cond.methodLink RL 59 yX4_take, Cond.instanceMethod yX4_take, Cond.selects RX4 yX4_take yX4_take, Cond.code yX4_take cX4_take 2 (some .int), Cond.methodLink RX4 112 yX4_goesOff, Cond.instanceMethod yX4_goesOff]
def wsL_law_r15 : List Cond := [Cond.selects RX4 yX4_goesOff yX4_goesOff, Cond.code yX4_goesOff cX4_goesOff 3 none, Cond.methodLink RL 60 yX3_seconds, Cond.instanceMethod yX3_seconds, Cond.selects RX3 yX3_seconds yX3_seconds, Cond.code yX3_seconds cX3_seconds 2 (some .int), Cond.constant RX3 147 (99999), Cond.methodLink RX3 148 yX0_goSeconds, Cond.instanceMethod yX0_goSeconds, Cond.selects RX0 yX0_goSeconds yX0_goSeconds, Cond.code yX0_goSeconds cX0_goSeconds 5 none, Cond.methodLink RX0 80 yX0_passBearing, Cond.instanceMethod yX0_passBearing, Cond.selects RX0 yX0_passBearing yX0_passBearing, Cond.code yX0_passBearing cX0_passBearing 4 none, Cond.methodLink RX0 87 yX0_leaveOrBeLost, Cond.instanceMethod yX0_leaveOrBeLost, Cond.selects RX0 yX0_leaveOrBeLost yX0_leaveOrBeLost, Cond.code yX0_leaveOrBeLost cX0_leaveOrBeLost 2 none, Cond.methodLink RX0 99 yX0_getsOff, Cond.instanceMethod yX0_getsOff, Cond.selects RX0 yX0_getsOff yX0_getsOff, Cond.code yX0_getsOff cX0_getsOff 2 (some .boolean), Cond.methodLink RX0 102 yX0_goOff]
def wsL_law_r16 : List Cond := [Cond.methodLink RX0 90 yX0_getsOn, Cond.instanceMethod yX0_getsOn, Cond.selects RX0 yX0_getsOn yX0_getsOn, Cond.code yX0_getsOn cX0_getsOn 2 (some .boolean), Cond.methodLink RX0 72 yJ6_bitCount_0f7a4, Cond.static yJ6_bitCount_0f7a4, Cond.initialized RJ6, Cond.code yJ6_bitCount_0f7a4 cJ6_bitCount_0f7a4 1 (some .int), Cond.constant RJ6 265 (1431655765), Cond.constant RJ6 266 (858993459), Cond.constant RJ6 267 (252645135), Cond.methodLink RX0 93 yX0_isBorne, Cond.methodLink RX0 96 yX0_comeOn, Cond.methodLink RX0 84 yX0_dryAndRide, Cond.instanceMethod yX0_dryAndRide, Cond.selects RX0 yX0_dryAndRide yX0_dryAndRide, Cond.code yX0_dryAndRide cX0_dryAndRide 2 none, Cond.methodLink RX0 105 yX0_dries, Cond.methodLink RL 63 yX4_seconds, Cond.instanceMethod yX4_seconds, Cond.selects RX4 yX4_seconds yX4_seconds, Cond.code yX4_seconds cX4_seconds 2 (some .int), Cond.constant RX4 132 (99999), Cond.methodLink RX4 133 yX4_goesFor]
def wsL_law_r17 : List Cond := [Cond.instanceMethod yX4_goesFor, Cond.selects RX4 yX4_goesFor yX4_goesFor, Cond.code yX4_goesFor cX4_goesFor 3 none, Cond.methodLink RX4 129 yX4_goes, Cond.instanceMethod yX4_goes, Cond.selects RX4 yX4_goes yX4_goes, Cond.code yX4_goes cX4_goes 4 none, Cond.methodLink RX4 123 yX4_passes, Cond.instanceMethod yX4_passes, Cond.selects RX4 yX4_passes yX4_passes, Cond.code yX4_passes cX4_passes 4 none, Cond.methodLink RX4 116 yX4_getsOff, Cond.instanceMethod yX4_getsOff, Cond.selects RX4 yX4_getsOff yX4_getsOff, Cond.code yX4_getsOff cX4_getsOff 3 (some .boolean), Cond.methodLink RX4 55 yX4_others, Cond.instanceMethod yX4_others, Cond.selects RX4 yX4_others yX4_others, Cond.code yX4_others cX4_others 2 (some .int), Cond.methodLink RX4 52 yX4_bits, Cond.static yX4_bits, Cond.code yX4_bits cX4_bits 3 (some .int), Cond.methodLink RX4 120 yX4_getsOn, Cond.instanceMethod yX4_getsOn]
def wsL_law_r18 : List Cond := [Cond.selects RX4 yX4_getsOn yX4_getsOn, Cond.code yX4_getsOn cX4_getsOn 2 (some .boolean), Cond.methodLink RX4 126 yX4_allDry, Cond.instanceMethod yX4_allDry, Cond.selects RX4 yX4_allDry yX4_allDry, Cond.code yX4_allDry cX4_allDry 2 none, Cond.methodLink RL 64 yX3_on, Cond.instanceMethod yX3_on, Cond.selects RX3 yX3_on yX3_on, Cond.code yX3_on cX3_on 4 (some .int), Cond.methodLink RX3 151 yX0_becomes, Cond.instanceMethod yX0_becomes, Cond.selects RX0 yX0_becomes yX0_becomes, Cond.code yX0_becomes cX0_becomes 3 none, Cond.methodLink RL 67 yX4_on, Cond.instanceMethod yX4_on, Cond.selects RX4 yX4_on yX4_on, Cond.code yX4_on cX4_on 5 (some .int), Cond.methodLink RX4 140 yX4_thinks, Cond.instanceMethod yX4_thinks, Cond.selects RX4 yX4_thinks yX4_thinks, Cond.code yX4_thinks cX4_thinks 1 none, Cond.methodLink RX4 136 yX4_copyAll, Cond.static yX4_copyAll]
def wsL_law_r19 : List Cond := [Cond.code yX4_copyAll cX4_copyAll 3 none, Cond.methodLink RX4 143 yX4_putsBack, Cond.instanceMethod yX4_putsBack, Cond.selects RX4 yX4_putsBack yX4_putsBack, Cond.code yX4_putsBack cX4_putsBack 1 none, Cond.methodLink RL 68 yX3_then, Cond.instanceMethod yX3_then, Cond.selects RX3 yX3_then yX3_then, Cond.code yX3_then cX3_then 3 (some .int), Cond.methodLink RX3 155 yJ6_bitCount_0f7a4, Cond.methodLink RL 71 yX4_then, Cond.instanceMethod yX4_then, Cond.selects RX4 yX4_then yX4_then, Cond.code yX4_then cX4_then 4 (some .int), Cond.methodLink RL 72 yX3_gets, Cond.instanceMethod yX3_gets, Cond.selects RX3 yX3_gets yX3_gets, Cond.code yX3_gets cX3_gets 2 (some .int), Cond.methodLink RX3 160 yX3_secondsUntil, Cond.instanceMethod yX3_secondsUntil, Cond.selects RX3 yX3_secondsUntil yX3_secondsUntil, Cond.code yX3_secondsUntil cX3_secondsUntil 5 (some .int), Cond.constant RX3 167 (-1000000004), Cond.methodLink RX3 223 yX0_isSo]
def wsL_law_r20 : List Cond := [Cond.instanceMethod yX0_isSo, Cond.selects RX0 yX0_isSo yX0_isSo, Cond.code yX0_isSo cX0_isSo 3 (some .boolean), Cond.methodLink RX0 108 yX0_isLost, Cond.methodLink RX3 164 yX3_orNone, Cond.instanceMethod yX3_orNone, Cond.selects RX3 yX3_orNone yX3_orNone, Cond.code yX3_orNone cX3_orNone 2 (some .int), Cond.methodLink RL 75 yX4_gets, Cond.instanceMethod yX4_gets, Cond.selects RX4 yX4_gets yX4_gets, Cond.code yX4_gets cX4_gets 2 (some .int), Cond.methodLink RX4 146 yX4_soIn, Cond.instanceMethod yX4_soIn, Cond.selects RX4 yX4_soIn yX4_soIn, Cond.code yX4_soIn cX4_soIn 6 (some .int), Cond.methodLink RX4 150 yX4_orNone, Cond.instanceMethod yX4_orNone, Cond.selects RX4 yX4_orNone yX4_orNone, Cond.code yX4_orNone cX4_orNone 2 (some .int), Cond.constant RX4 36 (-1000000004), Cond.methodLink RL 76 yX3_dry, Cond.instanceMethod yX3_dry, Cond.selects RX3 yX3_dry yX3_dry]
def wsL_law_r21 : List Cond := [Cond.code yX3_dry cX3_dry 2 (some .int), Cond.methodLink RL 79 yX4_dry, Cond.instanceMethod yX4_dry, Cond.selects RX4 yX4_dry yX4_dry, Cond.code yX4_dry cX4_dry 2 (some .int), Cond.methodLink RL 80 yX3_lost, Cond.instanceMethod yX3_lost, Cond.selects RX3 yX3_lost yX3_lost, Cond.code yX3_lost cX3_lost 2 (some .int), Cond.methodLink RL 83 yX4_lost, Cond.instanceMethod yX4_lost, Cond.selects RX4 yX4_lost yX4_lost, Cond.code yX4_lost cX4_lost 2 (some .int), Cond.methodLink RL 84 yX3_arrives, Cond.instanceMethod yX3_arrives, Cond.selects RX3 yX3_arrives yX3_arrives, Cond.code yX3_arrives cX3_arrives 2 (some .int), Cond.methodLink RL 87 yX4_arrives, Cond.instanceMethod yX4_arrives, Cond.selects RX4 yX4_arrives yX4_arrives, Cond.code yX4_arrives cX4_arrives 2 (some .int), Cond.methodLink RX4 153 yX4_arrivesIn, Cond.instanceMethod yX4_arrivesIn, Cond.selects RX4 yX4_arrivesIn yX4_arrivesIn]
def wsL_law_r22 : List Cond := [Cond.code yX4_arrivesIn cX4_arrivesIn 4 (some .int), Cond.methodLink RL 88 yX3_speed, Cond.instanceMethod yX3_speed, Cond.selects RX3 yX3_speed yX3_speed, Cond.code yX3_speed cX3_speed 6 (some .int), Cond.methodLink RL 91 yX4_speed, Cond.instanceMethod yX4_speed, Cond.selects RX4 yX4_speed yX4_speed, Cond.code yX4_speed cX4_speed 3 (some .int), Cond.methodLink RX4 156 yX4_driest, Cond.instanceMethod yX4_driest, Cond.selects RX4 yX4_driest yX4_driest, Cond.code yX4_driest cX4_driest 10 (some .int), Cond.methodLink RL 92 yX3_far, Cond.instanceMethod yX3_far, Cond.selects RX3 yX3_far yX3_far, Cond.code yX3_far cX3_far 6 (some .int), Cond.methodLink RL 95 yX4_far, Cond.instanceMethod yX4_far, Cond.selects RX4 yX4_far yX4_far, Cond.code yX4_far cX4_far 7 (some .int), Cond.methodLink RL 96 yX3_kind, Cond.instanceMethod yX3_kind, Cond.selects RX3 yX3_kind yX3_kind]
def wsL_law_r23 : List Cond := [Cond.code yX3_kind cX3_kind 6 (some .int), Cond.methodLink RL 99 yX4_kind, Cond.instanceMethod yX4_kind, Cond.selects RX4 yX4_kind yX4_kind, Cond.code yX4_kind cX4_kind 3 (some .int), Cond.methodLink RL 100 yX3_thick, Cond.instanceMethod yX3_thick, Cond.selects RX3 yX3_thick yX3_thick, Cond.code yX3_thick cX3_thick 4 (some .int), Cond.methodLink RL 103 yX4_thick, Cond.instanceMethod yX4_thick, Cond.selects RX4 yX4_thick yX4_thick, Cond.code yX4_thick cX4_thick 5 (some .int), Cond.methodLink RL 104 yX3_save, Cond.instanceMethod yX3_save, Cond.selects RX3 yX3_save yX3_save, Cond.code yX3_save cX3_save 6 (some .int), Cond.methodLink RX3 168 yX3_lostWithout, Cond.instanceMethod yX3_lostWithout, Cond.selects RX3 yX3_lostWithout yX3_lostWithout, Cond.code yX3_lostWithout cX3_lostWithout 3 (some .int), Cond.methodLink RL 107 yX4_save, Cond.instanceMethod yX4_save, Cond.selects RX4 yX4_save yX4_save]
def wsL_law_r24 : List Cond := [Cond.code yX4_save cX4_save 6 (some .int), Cond.methodLink RL 108 yX3_goal, Cond.instanceMethod yX3_goal, Cond.selects RX3 yX3_goal yX3_goal, Cond.code yX3_goal cX3_goal 6 (some .int), Cond.methodLink RL 111 yX4_goal, Cond.instanceMethod yX4_goal, Cond.selects RX4 yX4_goal yX4_goal, Cond.code yX4_goal cX4_goal 7 (some .int), Cond.methodLink RL 112 yX3_feed, Cond.instanceMethod yX3_feed, Cond.selects RX3 yX3_feed yX3_feed, Cond.code yX3_feed cX3_feed 4 (some .int), Cond.fieldLink RX3 171 "BeamSeats$Tape" "size" "I", Cond.methodLink RX3 172 yX2_append, Cond.instanceMethod yX2_append, Cond.selects RX2 yX2_append yX2_append, Cond.code yX2_append cX2_append 2 none, Cond.methodLink RL 115 yX4_feed, Cond.instanceMethod yX4_feed, Cond.selects RX4 yX4_feed yX4_feed, Cond.code yX4_feed cX4_feed 4 (some .int), Cond.fieldLink RX4 159 "BeamSeatsModel" "taped" "I", Cond.methodLink RL 116 yX3_wipe]
def wsL_law_r25 : List Cond := [Cond.instanceMethod yX3_wipe, Cond.selects RX3 yX3_wipe yX3_wipe, Cond.code yX3_wipe cX3_wipe 2 (some .int), Cond.methodLink RL 120 yX4_wipe, Cond.instanceMethod yX4_wipe, Cond.selects RX4 yX4_wipe yX4_wipe, Cond.code yX4_wipe cX4_wipe 2 (some .int), Cond.methodLink RL 121 yX3_island, Cond.instanceMethod yX3_island, Cond.selects RX3 yX3_island yX3_island, Cond.code yX3_island cX3_island 2 (some .int), Cond.methodLink RX3 176 yX2_tell, Cond.instanceMethod yX2_tell, Cond.selects RX2 yX2_tell yX2_tell, Cond.code yX2_tell cX2_tell 3 (some .int), Cond.methodLink RX2 35 yX2_cutTokens, Cond.instanceMethod yX2_cutTokens, Cond.selects RX2 yX2_cutTokens yX2_cutTokens, Cond.code yX2_cutTokens cX2_cutTokens 4 none, Cond.methodLink RX2 83 yX2_cutToken, Cond.instanceMethod yX2_cutToken, Cond.selects RX2 yX2_cutToken yX2_cutToken, Cond.code yX2_cutToken cX2_cutToken 4 (some .int), Cond.methodLink RX2 86 yX2_isLetter]
def wsL_law_r26 : List Cond := [Cond.static yX2_isLetter, Cond.code yX2_isLetter cX2_isLetter 1 (some .boolean), Cond.methodLink RX2 90 yX2_wordAt, Cond.instanceMethod yX2_wordAt, Cond.selects RX2 yX2_wordAt yX2_wordAt, Cond.code yX2_wordAt cX2_wordAt 4 (some .int), Cond.methodLink RX2 99 yX2_wordOf, Cond.static yX2_wordOf, Cond.code yX2_wordOf cX2_wordOf 1 (some (.object "java/lang/String")), Cond.methodLink RX2 103 yX2_isSpelt, Cond.instanceMethod yX2_isSpelt, Cond.selects RX2 yX2_isSpelt yX2_isSpelt, Cond.code yX2_isSpelt cX2_isSpelt 5 (some .boolean), Cond.methodLink RX2 112 yJ0_length_8abf5, Cond.instanceMethod yJ0_length_8abf5, Cond.selects RJ0 yJ0_length_8abf5 yJ0_length_8abf5, Cond.initialized RJ0, Cond.code yJ0_length_8abf5 cJ0_length_8abf5 1 (some .int), Cond.fieldLink RJ0 9 "java/lang/String" "value" "[B", Cond.methodLink RJ0 335 yJ0_coder_7d493, Cond.instanceMethod yJ0_coder_7d493, Cond.selects RJ0 yJ0_coder_7d493 yJ0_coder_7d493, Cond.code yJ0_coder_7d493 cJ0_coder_7d493 1 (some .byte), Cond.fieldLink RJ0 38 "java/lang/String" "COMPACT_STRINGS" "Z"]
def wsL_law_r27 : List Cond := [Cond.fieldLink RJ0 15 "java/lang/String" "coder" "B", Cond.methodLink RX2 118 yJ0_charAt_5068e, Cond.instanceMethod yJ0_charAt_5068e, Cond.selects RJ0 yJ0_charAt_5068e yJ0_charAt_5068e, Cond.code yJ0_charAt_5068e cJ0_charAt_5068e 2 (some .char), Cond.methodLink RJ0 492 yJ0_isLatin1_aae02, Cond.instanceMethod yJ0_isLatin1_aae02, Cond.selects RJ0 yJ0_isLatin1_aae02 yJ0_isLatin1_aae02, Cond.code yJ0_isLatin1_aae02 cJ0_isLatin1_aae02 1 (some .boolean), Cond.methodLink RJ0 495 yJ1_charAt_3b067, Cond.static yJ1_charAt_3b067, Cond.initialized RJ1, Cond.code yJ1_charAt_3b067 cJ1_charAt_3b067 2 (some .char), Cond.methodLink RJ1 9 yJ0_checkIndex_df160, Cond.static yJ0_checkIndex_df160, Cond.code yJ0_checkIndex_df160 cJ0_checkIndex_df160 2 none, Cond.fieldLink RJ0 1053 "jdk/internal/util/Preconditions" "SIOOBE_FORMATTER" "Ljava/util/function/BiFunction;", Cond.methodLink RJ0 1059 yJ3_checkIndex_8e157, Cond.static yJ3_checkIndex_8e157, Cond.initialized RJ3, Cond.code yJ3_checkIndex_8e157 cJ3_checkIndex_8e157 3 (some .int), Cond.methodLink RJ0 498 yJ2_charAt_3b067, Cond.static yJ2_charAt_3b067, Cond.initialized RJ2]
def wsL_law_r28 : List Cond := [Cond.code yJ2_charAt_3b067 cJ2_charAt_3b067 2 (some .char), Cond.methodLink RJ2 67 yJ2_checkIndex_2214a, Cond.static yJ2_checkIndex_2214a, Cond.code yJ2_checkIndex_2214a cJ2_checkIndex_2214a 2 none, Cond.methodLink RJ2 48 yJ2_length_9d52b, Cond.static yJ2_length_9d52b, Cond.code yJ2_length_9d52b cJ2_length_9d52b 1 (some .int), Cond.methodLink RJ2 414 yJ0_checkIndex_df160, Cond.methodLink RJ2 71 yJ2_getChar_3b067, Cond.static yJ2_getChar_3b067, Cond.code yJ2_getChar_3b067 cJ2_getChar_3b067 2 (some .char), Cond.fieldLink RJ2 44 "java/lang/StringUTF16" "$assertionsDisabled" "Z", Cond.fieldLink RJ2 59 "java/lang/StringUTF16" "HI_BYTE_SHIFT" "I", Cond.fieldLink RJ2 63 "java/lang/StringUTF16" "LO_BYTE_SHIFT" "I", Cond.methodLink RX2 93 yX2_isDigit, Cond.static yX2_isDigit, Cond.code yX2_isDigit cX2_isDigit 1 (some .boolean), Cond.methodLink RX2 96 yX2_numberAt, Cond.instanceMethod yX2_numberAt, Cond.selects RX2 yX2_numberAt yX2_numberAt, Cond.code yX2_numberAt cX2_numberAt 5 (some .int), Cond.methodLink RX2 107 Lib.Math.min.name, Cond.methodLink RX2 38 yX2_tellItem, Cond.instanceMethod yX2_tellItem]
def wsL_law_r29 : List Cond := [Cond.selects RX2 yX2_tellItem yX2_tellItem, Cond.code yX2_tellItem cX2_tellItem 3 (some .boolean), Cond.fieldLink RX2 50 "BeamSeats$Island" "bearing" "I", Cond.fieldLink RX2 55 "BeamSeats$Island" "speed" "I", Cond.fieldLink RX2 58 "BeamSeats$Island" "thick" "I", Cond.methodLink RX2 42 yX2_tellThing, Cond.instanceMethod yX2_tellThing, Cond.selects RX2 yX2_tellThing yX2_tellThing, Cond.code yX2_tellThing cX2_tellThing 4 (some .boolean), Cond.fieldLink RX2 61 "BeamSeats$Island" "size" "I", Cond.fieldLink RX2 66 "BeamSeats$Island" "outs" "[I", Cond.fieldLink RX2 73 "BeamSeats$Island" "wets" "[I", Cond.fieldLink RX2 76 "BeamSeats$Island" "goals" "[I", Cond.methodLink RX2 46 yX2_numberBehind, Cond.instanceMethod yX2_numberBehind, Cond.selects RX2 yX2_numberBehind yX2_numberBehind, Cond.code yX2_numberBehind cX2_numberBehind 3 (some .boolean), Cond.methodLink RX2 62 yX0_add, Cond.methodLink RX2 69 yX2_tellPart, Cond.instanceMethod yX2_tellPart, Cond.selects RX2 yX2_tellPart yX2_tellPart, Cond.code yX2_tellPart cX2_tellPart 5 (some .boolean), Cond.methodLink RL 124 yX4_island, Cond.instanceMethod yX4_island]
def wsL_law_r30 : List Cond := [Cond.selects RX4 yX4_island yX4_island, Cond.code yX4_island cX4_island 2 (some .int), Cond.fieldLink RX4 169 "BeamSeatsModel" "at" "I", Cond.fieldLink RX4 188 "BeamSeatsModel" "bad" "Z", Cond.fieldLink RX4 182 "BeamSeatsModel" "token" "I", Cond.fieldLink RX4 166 "BeamSeatsModel" "begin" "I", Cond.methodLink RX4 192 yX4_reads, Cond.instanceMethod yX4_reads, Cond.selects RX4 yX4_reads yX4_reads, Cond.code yX4_reads cX4_reads 1 none, Cond.fieldLink RX4 179 "BeamSeatsModel" "value" "I", Cond.methodLink RX4 175 yX4_isByte, Cond.instanceMethod yX4_isByte, Cond.selects RX4 yX4_isByte yX4_isByte, Cond.code yX4_isByte cX4_isByte 4 (some .boolean), Cond.methodLink RX4 185 yX4_wordHere, Cond.instanceMethod yX4_wordHere, Cond.selects RX4 yX4_wordHere yX4_wordHere, Cond.code yX4_wordHere cX4_wordHere 2 (some .int), Cond.methodLink RX4 172 yX4_isName, Cond.instanceMethod yX4_isName, Cond.selects RX4 yX4_isName yX4_isName, Cond.code yX4_isName cX4_isName 5 (some .boolean), Cond.fieldLink RX4 163 "BeamSeatsModel" "NAMES" "[I"]
def wsL_law_r31 : List Cond := [Cond.methodLink RX4 207 yX4_item, Cond.instanceMethod yX4_item, Cond.selects RX4 yX4_item yX4_item, Cond.code yX4_item cX4_item 1 none, Cond.methodLink RX4 204 yX4_thingItem, Cond.instanceMethod yX4_thingItem, Cond.selects RX4 yX4_thingItem yX4_thingItem, Cond.code yX4_thingItem cX4_thingItem 7 none, Cond.methodLink RX4 198 yX4_number, Cond.instanceMethod yX4_number, Cond.selects RX4 yX4_number yX4_number, Cond.code yX4_number cX4_number 4 (some .int), Cond.methodLink RX4 201 yX4_perhaps, Cond.instanceMethod yX4_perhaps, Cond.selects RX4 yX4_perhaps yX4_perhaps, Cond.code yX4_perhaps cX4_perhaps 5 (some .int), Cond.methodLink RX4 195 yX4_passesBy, Cond.instanceMethod yX4_passesBy, Cond.selects RX4 yX4_passesBy yX4_passesBy, Cond.code yX4_passesBy cX4_passesBy 2 (some .boolean), Cond.methodLink RL 125 yX3_sheet, Cond.instanceMethod yX3_sheet, Cond.selects RX3 yX3_sheet yX3_sheet, Cond.code yX3_sheet cX3_sheet 4 (some .int)]
def wsL_law_r32 : List Cond := [Cond.constant RX3 180 (-1000000007), Cond.fieldLink RX3 185 "BeamSeats$Sheet" "size" "I", Cond.methodLink RX3 181 yX1_renew, Cond.instanceMethod yX1_renew, Cond.selects RX1 yX1_renew yX1_renew, Cond.code yX1_renew cX1_renew 4 none, Cond.methodLink RL 128 yX4_sheet, Cond.instanceMethod yX4_sheet, Cond.selects RX4 yX4_sheet yX4_sheet, Cond.code yX4_sheet cX4_sheet 5 (some .int), Cond.constant RX4 213 (-1000000007), Cond.methodLink RX4 210 yX4_isSheet, Cond.static yX4_isSheet, Cond.code yX4_isSheet cX4_isSheet 1 (some .boolean), Cond.methodLink RL 131 yX3_write, Cond.instanceMethod yX3_write, Cond.selects RX3 yX3_write yX3_write, Cond.code yX3_write cX3_write 8 (some .long), Cond.fieldLink RX3 189 "BeamSeats$Sheet" "numbers" "[J", Cond.methodLink RX3 186 yX3_findingOfSheet, Cond.instanceMethod yX3_findingOfSheet, Cond.selects RX3 yX3_findingOfSheet yX3_findingOfSheet, Cond.code yX3_findingOfSheet cX3_findingOfSheet 2 (some .int), Cond.fieldLink RX3 197 "BeamSeats$Sheet" "bits" "I"]
def wsL_law_r33 : List Cond := [Cond.constant RX3 200 (-1000000006), Cond.methodLink RX3 193 yX1_put, Cond.instanceMethod yX1_put, Cond.selects RX1 yX1_put yX1_put, Cond.code yX1_put cX1_put 4 none, Cond.methodLink RL 135 yX4_write, Cond.instanceMethod yX4_write, Cond.selects RX4 yX4_write yX4_write, Cond.code yX4_write cX4_write 8 (some .long), Cond.methodLink RX4 215 yX4_notThere, Cond.instanceMethod yX4_notThere, Cond.selects RX4 yX4_notThere yX4_notThere, Cond.code yX4_notThere cX4_notThere 2 (some .int), Cond.constant RX4 214 (-1000000006), Cond.methodLink RX4 218 yX4_cutTo, Cond.static yX4_cutTo, Cond.code yX4_cutTo cX4_cutTo 3 (some .long), Cond.methodLink RL 136 yX3_copy, Cond.instanceMethod yX3_copy, Cond.selects RX3 yX3_copy yX3_copy, Cond.code yX3_copy cX3_copy 6 (some .int), Cond.methodLink RX3 204 arraycopyName, Cond.native arraycopyName, Cond.static arraycopyName]
def wsL_law_r34 : List Cond := [Cond.initialized "java/lang/System", Cond.methodLink RX3 201 yX1_hasNumbers, Cond.instanceMethod yX1_hasNumbers, Cond.selects RX1 yX1_hasNumbers yX1_hasNumbers, Cond.code yX1_hasNumbers cX1_hasNumbers 3 (some .boolean), Cond.methodLink RL 140 yX4_copy, Cond.instanceMethod yX4_copy, Cond.selects RX4 yX4_copy yX4_copy, Cond.code yX4_copy cX4_copy 9 (some .int), Cond.methodLink RX4 222 yX4_notCopied, Cond.instanceMethod yX4_notCopied, Cond.selects RX4 yX4_notCopied yX4_notCopied, Cond.code yX4_notCopied cX4_notCopied 7 (some .int), Cond.methodLink RL 141 yX3_lays, Cond.instanceMethod yX3_lays, Cond.selects RX3 yX3_lays yX3_lays, Cond.code yX3_lays cX3_lays 7 (some .int), Cond.constantLong RX3 210 (99), Cond.methodLink RL 144 yX4_lays, Cond.instanceMethod yX4_lays, Cond.selects RX4 yX4_lays yX4_lays, Cond.code yX4_lays cX4_lays 5 (some .int), Cond.methodLink RL 145 yX3_book, Cond.instanceMethod yX3_book]
def wsL_law_r35 : List Cond := [Cond.selects RX3 yX3_book yX3_book, Cond.code yX3_book cX3_book 5 (some .int), Cond.methodLink RL 148 yX4_book, Cond.instanceMethod yX4_book, Cond.selects RX4 yX4_book yX4_book, Cond.code yX4_book cX4_book 5 (some .int), Cond.methodLink RX4 225 yX4_notAsked, Cond.instanceMethod yX4_notAsked, Cond.selects RX4 yX4_notAsked yX4_notAsked, Cond.code yX4_notAsked cX4_notAsked 4 (some .int), Cond.methodLink RL 149 yX3_read, Cond.instanceMethod yX3_read, Cond.selects RX3 yX3_read yX3_read, Cond.code yX3_read cX3_read 7 (some .int), Cond.methodLink RX3 212 yX3_goesAsBooked, Cond.instanceMethod yX3_goesAsBooked, Cond.selects RX3 yX3_goesAsBooked yX3_goesAsBooked, Cond.code yX3_goesAsBooked cX3_goesAsBooked 4 (some .boolean), Cond.methodLink RL 152 yX4_read, Cond.instanceMethod yX4_read, Cond.selects RX4 yX4_read yX4_read, Cond.code yX4_read cX4_read 6 (some .int), Cond.methodLink RX4 228 yX4_isBook, Cond.instanceMethod yX4_isBook]
def wsL_law_r36 : List Cond := [Cond.selects RX4 yX4_isBook yX4_isBook, Cond.code yX4_isBook cX4_isBook 5 (some .boolean), Cond.methodLink RL 153 yX3_image, Cond.instanceMethod yX3_image, Cond.selects RX3 yX3_image yX3_image, Cond.code yX3_image cX3_image 1 (some .int), Cond.methodLink RL 156 yX4_image, Cond.instanceMethod yX4_image, Cond.selects RX4 yX4_image yX4_image, Cond.code yX4_image cX4_image 1 (some .int), Cond.fieldLink RX4 231 "BeamSeatsModel" "isKept" "Z", Cond.methodLink RL 157 yX3_undo, Cond.instanceMethod yX3_undo, Cond.selects RX3 yX3_undo yX3_undo, Cond.code yX3_undo cX3_undo 1 (some .int), Cond.methodLink RL 160 yX4_undo, Cond.instanceMethod yX4_undo, Cond.selects RX4 yX4_undo yX4_undo, Cond.code yX4_undo cX4_undo 1 (some .int), Cond.methodLink RL 161 yX3_tear, Cond.instanceMethod yX3_tear, Cond.selects RX3 yX3_tear yX3_tear, Cond.code yX3_tear cX3_tear 2 (some .int), Cond.methodLink RL 164 yX4_tear]
def wsL_law_r37 : List Cond := [Cond.instanceMethod yX4_tear, Cond.selects RX4 yX4_tear yX4_tear, Cond.code yX4_tear cX4_tear 2 (some .int), Cond.methodLink RL 165 yX3_count, Cond.instanceMethod yX3_count, Cond.selects RX3 yX3_count yX3_count, Cond.code yX3_count cX3_count 2 (some .int), Cond.methodLink RX3 216 yX3_sum, Cond.static yX3_sum, Cond.code yX3_sum cX3_sum 4 (some .int), Cond.methodLink RL 168 yX4_count, Cond.instanceMethod yX4_count, Cond.selects RX4 yX4_count yX4_count, Cond.code yX4_count cX4_count 2 (some .int), Cond.methodLink RX4 234 yX4_sums, Cond.instanceMethod yX4_sums, Cond.selects RX4 yX4_sums yX4_sums, Cond.code yX4_sums cX4_sums 4 (some .int), Cond.methodLink RL 169 yX3_status, Cond.instanceMethod yX3_status, Cond.selects RX3 yX3_status yX3_status, Cond.code yX3_status cX3_status 2 (some .int), Cond.methodLink RL 172 yX4_status, Cond.instanceMethod yX4_status]
def wsL_law_r38 : List Cond := [Cond.selects RX4 yX4_status yX4_status, Cond.code yX4_status cX4_status 4 (some .int)]
def wsL_law : List Cond := (wsL_law_r1 ++ (wsL_law_r2 ++ (wsL_law_r3 ++ (wsL_law_r4 ++ (wsL_law_r5 ++ (wsL_law_r6 ++ (wsL_law_r7 ++ (wsL_law_r8 ++ (wsL_law_r9 ++ (wsL_law_r10 ++ (wsL_law_r11 ++ (wsL_law_r12 ++ (wsL_law_r13 ++ (wsL_law_r14 ++ (wsL_law_r15 ++ (wsL_law_r16 ++ (wsL_law_r17 ++ (wsL_law_r18 ++ (wsL_law_r19 ++ (wsL_law_r20 ++ (wsL_law_r21 ++ (wsL_law_r22 ++ (wsL_law_r23 ++ (wsL_law_r24 ++ (wsL_law_r25 ++ (wsL_law_r26 ++ (wsL_law_r27 ++ (wsL_law_r28 ++ (wsL_law_r29 ++ (wsL_law_r30 ++ (wsL_law_r31 ++ (wsL_law_r32 ++ (wsL_law_r33 ++ (wsL_law_r34 ++ (wsL_law_r35 ++ (wsL_law_r36 ++ (wsL_law_r37 ++ wsL_law_r38))))))))))))))))))))))))))))))))))))) ++ wsX30 ++ wsX40 ++ wsX00 ++ wsX20 ++ wsX10 ++ ([] : List Cond)
abbrev vwCl : List vw_C := [(RX0, TX0, 13), (RX1, TX1, 3), (RX2, TX2, 7), (RX3, TX3, 7), (RX4, TX4, 15)]
end
section
theorem dX0_init_0 : decode cX0_init 0 = .ok (.aload_n 0, 1) := by decide +kernel
theorem dX0_init_1 : decode cX0_init 1 = .ok (.invokespecial 3, 3) := by decide +kernel
theorem dX0_init_4 : decode cX0_init 4 = .ok (.aload_n 0, 1) := by decide +kernel
theorem dX0_init_5 : decode cX0_init 5 = .ok (.iconst 0, 1) := by decide +kernel
theorem dX0_init_6 : decode cX0_init 6 = .ok (.putfield 9, 3) := by decide +kernel
theorem dX0_init_9 : decode cX0_init 9 = .ok (.aload_n 0, 1) := by decide +kernel
theorem dX0_init_10 : decode cX0_init 10 = .ok (.iconst 0, 1) := by decide +kernel
theorem dX0_init_11 : decode cX0_init 11 = .ok (.putfield 15, 3) := by decide +kernel
theorem dX0_init_14 : decode cX0_init 14 = .ok (.aload_n 0, 1) := by decide +kernel
theorem dX0_init_15 : decode cX0_init 15 = .ok (.iconst 2, 1) := by decide +kernel
theorem dX0_init_16 : decode cX0_init 16 = .ok (.putfield 18, 3) := by decide +kernel
theorem dX0_init_19 : decode cX0_init 19 = .ok (.aload_n 0, 1) := by decide +kernel
theorem dX0_init_20 : decode cX0_init 20 = .ok (.bipush 20, 2) := by decide +kernel
theorem dX0_init_22 : decode cX0_init 22 = .ok (.putfield 21, 3) := by decide +kernel
theorem dX0_init_25 : decode cX0_init 25 = .ok (.aload_n 0, 1) := by decide +kernel
theorem dX0_init_26 : decode cX0_init 26 = .ok (.iconst 0, 1) := by decide +kernel
theorem dX0_init_27 : decode cX0_init 27 = .ok (.putfield 24, 3) := by decide +kernel
theorem dX0_init_30 : decode cX0_init 30 = .ok (.aload_n 0, 1) := by decide +kernel
theorem dX0_init_31 : decode cX0_init 31 = .ok (.iconst 0, 1) := by decide +kernel
theorem dX0_init_32 : decode cX0_init 32 = .ok (.putfield 27, 3) := by decide +kernel
theorem dX0_init_35 : decode cX0_init 35 = .ok (.aload_n 0, 1) := by decide +kernel
theorem dX0_init_36 : decode cX0_init 36 = .ok (.iconst 0, 1) := by decide +kernel
theorem dX0_init_37 : decode cX0_init 37 = .ok (.putfield 30, 3) := by decide +kernel
theorem dX0_init_40 : decode cX0_init 40 = .ok (.aload_n 0, 1) := by decide +kernel
theorem dX0_init_41 : decode cX0_init 41 = .ok (.bipush 8, 2) := by decide +kernel
theorem dX0_init_43 : decode cX0_init 43 = .ok (.newarray .int, 2) := by decide +kernel
theorem dX0_init_45 : decode cX0_init 45 = .ok (.putfield 33, 3) := by decide +kernel
theorem dX0_init_48 : decode cX0_init 48 = .ok (.aload_n 0, 1) := by decide +kernel
theorem dX0_init_49 : decode cX0_init 49 = .ok (.bipush 8, 2) := by decide +kernel
theorem dX0_init_51 : decode cX0_init 51 = .ok (.newarray .int, 2) := by decide +kernel
theorem dX0_init_53 : decode cX0_init 53 = .ok (.putfield 37, 3) := by decide +kernel
theorem dX0_init_56 : decode cX0_init 56 = .ok (.aload_n 0, 1) := by decide +kernel
theorem dX0_init_57 : decode cX0_init 57 = .ok (.bipush 8, 2) := by decide +kernel
theorem dX0_init_59 : decode cX0_init 59 = .ok (.newarray .int, 2) := by decide +kernel
theorem dX0_init_61 : decode cX0_init 61 = .ok (.putfield 40, 3) := by decide +kernel
theorem dX0_init_64 : decode cX0_init 64 = .ok (.aload_n 0, 1) := by decide +kernel
theorem dX0_init_65 : decode cX0_init 65 = .ok (.bipush 8, 2) := by decide +kernel
theorem dX0_init_67 : decode cX0_init 67 = .ok (.newarray .int, 2) := by decide +kernel
theorem dX0_init_69 : decode cX0_init 69 = .ok (.putfield 43, 3) := by decide +kernel
theorem dX0_init_72 : decode cX0_init 72 = .ok (.aload_n 0, 1) := by decide +kernel
theorem dX0_init_73 : decode cX0_init 73 = .ok (.bipush 8, 2) := by decide +kernel
theorem dX0_init_75 : decode cX0_init 75 = .ok (.newarray .int, 2) := by decide +kernel
theorem dX0_init_77 : decode cX0_init 77 = .ok (.putfield 46, 3) := by decide +kernel
theorem dX0_init_80 : decode cX0_init 80 = .ok (.aload_n 0, 1) := by decide +kernel
theorem dX0_init_81 : decode cX0_init 81 = .ok (.bipush 8, 2) := by decide +kernel
theorem dX0_init_83 : decode cX0_init 83 = .ok (.newarray .int, 2) := by decide +kernel
theorem dX0_init_85 : decode cX0_init 85 = .ok (.putfield 49, 3) := by decide +kernel
theorem dX0_init_88 : decode cX0_init 88 = .ok (.return_, 1) := by decide +kernel
theorem dX0_becomes_0 : decode cX0_becomes 0 = .ok (.aload_n 0, 1) := by decide +kernel
theorem dX0_becomes_1 : decode cX0_becomes 1 = .ok (.aload_n 1, 1) := by decide +kernel
theorem dX0_becomes_2 : decode cX0_becomes 2 = .ok (.getfield 9, 3) := by decide +kernel
theorem dX0_becomes_5 : decode cX0_becomes 5 = .ok (.putfield 9, 3) := by decide +kernel
theorem dX0_becomes_8 : decode cX0_becomes 8 = .ok (.aload_n 0, 1) := by decide +kernel
theorem dX0_becomes_9 : decode cX0_becomes 9 = .ok (.aload_n 1, 1) := by decide +kernel
theorem dX0_becomes_10 : decode cX0_becomes 10 = .ok (.getfield 15, 3) := by decide +kernel
theorem dX0_becomes_13 : decode cX0_becomes 13 = .ok (.putfield 15, 3) := by decide +kernel
theorem dX0_becomes_16 : decode cX0_becomes 16 = .ok (.aload_n 0, 1) := by decide +kernel
theorem dX0_becomes_17 : decode cX0_becomes 17 = .ok (.aload_n 1, 1) := by decide +kernel
theorem dX0_becomes_18 : decode cX0_becomes 18 = .ok (.getfield 18, 3) := by decide +kernel
theorem dX0_becomes_21 : decode cX0_becomes 21 = .ok (.putfield 18, 3) := by decide +kernel
theorem dX0_becomes_24 : decode cX0_becomes 24 = .ok (.aload_n 0, 1) := by decide +kernel
theorem dX0_becomes_25 : decode cX0_becomes 25 = .ok (.aload_n 1, 1) := by decide +kernel
theorem dX0_becomes_26 : decode cX0_becomes 26 = .ok (.getfield 21, 3) := by decide +kernel
theorem dX0_becomes_29 : decode cX0_becomes 29 = .ok (.putfield 21, 3) := by decide +kernel
theorem dX0_becomes_32 : decode cX0_becomes 32 = .ok (.aload_n 0, 1) := by decide +kernel
theorem dX0_becomes_33 : decode cX0_becomes 33 = .ok (.aload_n 1, 1) := by decide +kernel
theorem dX0_becomes_34 : decode cX0_becomes 34 = .ok (.getfield 24, 3) := by decide +kernel
theorem dX0_becomes_37 : decode cX0_becomes 37 = .ok (.putfield 24, 3) := by decide +kernel
theorem dX0_becomes_40 : decode cX0_becomes 40 = .ok (.aload_n 0, 1) := by decide +kernel
theorem dX0_becomes_41 : decode cX0_becomes 41 = .ok (.aload_n 1, 1) := by decide +kernel
theorem dX0_becomes_42 : decode cX0_becomes 42 = .ok (.getfield 27, 3) := by decide +kernel
theorem dX0_becomes_45 : decode cX0_becomes 45 = .ok (.putfield 27, 3) := by decide +kernel
theorem dX0_becomes_48 : decode cX0_becomes 48 = .ok (.aload_n 0, 1) := by decide +kernel
theorem dX0_becomes_49 : decode cX0_becomes 49 = .ok (.aload_n 1, 1) := by decide +kernel
theorem dX0_becomes_50 : decode cX0_becomes 50 = .ok (.getfield 30, 3) := by decide +kernel
theorem dX0_becomes_53 : decode cX0_becomes 53 = .ok (.putfield 30, 3) := by decide +kernel
theorem dX0_becomes_56 : decode cX0_becomes 56 = .ok (.iconst 0, 1) := by decide +kernel
theorem dX0_becomes_57 : decode cX0_becomes 57 = .ok (.istore_n 2, 1) := by decide +kernel
theorem dX0_becomes_58 : decode cX0_becomes 58 = .ok (.iload_n 2, 1) := by decide +kernel
theorem dX0_becomes_59 : decode cX0_becomes 59 = .ok (.aload_n 0, 1) := by decide +kernel
theorem dX0_becomes_60 : decode cX0_becomes 60 = .ok (.getfield 24, 3) := by decide +kernel
theorem dX0_becomes_63 : decode cX0_becomes 63 = .ok (.if_icmp .ge 81, 3) := by decide +kernel
theorem dX0_becomes_66 : decode cX0_becomes 66 = .ok (.aload_n 0, 1) := by decide +kernel
theorem dX0_becomes_67 : decode cX0_becomes 67 = .ok (.getfield 33, 3) := by decide +kernel
theorem dX0_becomes_70 : decode cX0_becomes 70 = .ok (.iload_n 2, 1) := by decide +kernel
theorem dX0_becomes_71 : decode cX0_becomes 71 = .ok (.aload_n 1, 1) := by decide +kernel
theorem dX0_becomes_72 : decode cX0_becomes 72 = .ok (.getfield 33, 3) := by decide +kernel
theorem dX0_becomes_75 : decode cX0_becomes 75 = .ok (.iload_n 2, 1) := by decide +kernel
theorem dX0_becomes_76 : decode cX0_becomes 76 = .ok (.iaload, 1) := by decide +kernel
theorem dX0_becomes_77 : decode cX0_becomes 77 = .ok (.iastore, 1) := by decide +kernel
theorem dX0_becomes_78 : decode cX0_becomes 78 = .ok (.aload_n 0, 1) := by decide +kernel
theorem dX0_becomes_79 : decode cX0_becomes 79 = .ok (.getfield 37, 3) := by decide +kernel
theorem dX0_becomes_82 : decode cX0_becomes 82 = .ok (.iload_n 2, 1) := by decide +kernel
theorem dX0_becomes_83 : decode cX0_becomes 83 = .ok (.aload_n 1, 1) := by decide +kernel
theorem dX0_becomes_84 : decode cX0_becomes 84 = .ok (.getfield 37, 3) := by decide +kernel
theorem dX0_becomes_87 : decode cX0_becomes 87 = .ok (.iload_n 2, 1) := by decide +kernel
theorem dX0_becomes_88 : decode cX0_becomes 88 = .ok (.iaload, 1) := by decide +kernel
theorem dX0_becomes_89 : decode cX0_becomes 89 = .ok (.iastore, 1) := by decide +kernel
theorem dX0_becomes_90 : decode cX0_becomes 90 = .ok (.aload_n 0, 1) := by decide +kernel
theorem dX0_becomes_91 : decode cX0_becomes 91 = .ok (.getfield 40, 3) := by decide +kernel
theorem dX0_becomes_94 : decode cX0_becomes 94 = .ok (.iload_n 2, 1) := by decide +kernel
theorem dX0_becomes_95 : decode cX0_becomes 95 = .ok (.aload_n 1, 1) := by decide +kernel
theorem dX0_becomes_96 : decode cX0_becomes 96 = .ok (.getfield 40, 3) := by decide +kernel
theorem dX0_becomes_99 : decode cX0_becomes 99 = .ok (.iload_n 2, 1) := by decide +kernel
theorem dX0_becomes_100 : decode cX0_becomes 100 = .ok (.iaload, 1) := by decide +kernel
theorem dX0_becomes_101 : decode cX0_becomes 101 = .ok (.iastore, 1) := by decide +kernel
theorem dX0_becomes_102 : decode cX0_becomes 102 = .ok (.aload_n 0, 1) := by decide +kernel
theorem dX0_becomes_103 : decode cX0_becomes 103 = .ok (.getfield 43, 3) := by decide +kernel
theorem dX0_becomes_106 : decode cX0_becomes 106 = .ok (.iload_n 2, 1) := by decide +kernel
theorem dX0_becomes_107 : decode cX0_becomes 107 = .ok (.aload_n 1, 1) := by decide +kernel
theorem dX0_becomes_108 : decode cX0_becomes 108 = .ok (.getfield 43, 3) := by decide +kernel
theorem dX0_becomes_111 : decode cX0_becomes 111 = .ok (.iload_n 2, 1) := by decide +kernel
theorem dX0_becomes_112 : decode cX0_becomes 112 = .ok (.iaload, 1) := by decide +kernel
theorem dX0_becomes_113 : decode cX0_becomes 113 = .ok (.iastore, 1) := by decide +kernel
theorem dX0_becomes_114 : decode cX0_becomes 114 = .ok (.aload_n 0, 1) := by decide +kernel
theorem dX0_becomes_115 : decode cX0_becomes 115 = .ok (.getfield 46, 3) := by decide +kernel
theorem dX0_becomes_118 : decode cX0_becomes 118 = .ok (.iload_n 2, 1) := by decide +kernel
theorem dX0_becomes_119 : decode cX0_becomes 119 = .ok (.aload_n 1, 1) := by decide +kernel
theorem dX0_becomes_120 : decode cX0_becomes 120 = .ok (.getfield 46, 3) := by decide +kernel
theorem dX0_becomes_123 : decode cX0_becomes 123 = .ok (.iload_n 2, 1) := by decide +kernel
theorem dX0_becomes_124 : decode cX0_becomes 124 = .ok (.iaload, 1) := by decide +kernel
theorem dX0_becomes_125 : decode cX0_becomes 125 = .ok (.iastore, 1) := by decide +kernel
theorem dX0_becomes_126 : decode cX0_becomes 126 = .ok (.aload_n 0, 1) := by decide +kernel
theorem dX0_becomes_127 : decode cX0_becomes 127 = .ok (.getfield 49, 3) := by decide +kernel
theorem dX0_becomes_130 : decode cX0_becomes 130 = .ok (.iload_n 2, 1) := by decide +kernel
theorem dX0_becomes_131 : decode cX0_becomes 131 = .ok (.aload_n 1, 1) := by decide +kernel
theorem dX0_becomes_132 : decode cX0_becomes 132 = .ok (.getfield 49, 3) := by decide +kernel
theorem dX0_becomes_135 : decode cX0_becomes 135 = .ok (.iload_n 2, 1) := by decide +kernel
theorem dX0_becomes_136 : decode cX0_becomes 136 = .ok (.iaload, 1) := by decide +kernel
theorem dX0_becomes_137 : decode cX0_becomes 137 = .ok (.iastore, 1) := by decide +kernel
theorem dX0_becomes_138 : decode cX0_becomes 138 = .ok (.iinc 2 1, 3) := by decide +kernel
theorem dX0_becomes_141 : decode cX0_becomes 141 = .ok (.goto (-83), 3) := by decide +kernel
theorem dX0_becomes_144 : decode cX0_becomes 144 = .ok (.return_, 1) := by decide +kernel
theorem dX0_has_0 : decode cX0_has 0 = .ok (.iload_n 1, 1) := by decide +kernel
theorem dX0_has_1 : decode cX0_has 1 = .ok (.ifCond .lt 15, 3) := by decide +kernel
theorem dX0_has_4 : decode cX0_has 4 = .ok (.iload_n 1, 1) := by decide +kernel
theorem dX0_has_5 : decode cX0_has 5 = .ok (.aload_n 0, 1) := by decide +kernel
theorem dX0_has_6 : decode cX0_has 6 = .ok (.getfield 24, 3) := by decide +kernel
theorem dX0_has_9 : decode cX0_has 9 = .ok (.if_icmp .ge 7, 3) := by decide +kernel
theorem dX0_has_12 : decode cX0_has 12 = .ok (.iconst 1, 1) := by decide +kernel
theorem dX0_has_13 : decode cX0_has 13 = .ok (.goto 4, 3) := by decide +kernel
theorem dX0_has_16 : decode cX0_has 16 = .ok (.iconst 0, 1) := by decide +kernel
theorem dX0_has_17 : decode cX0_has 17 = .ok (.ireturn, 1) := by decide +kernel
theorem dX0_isOn_0 : decode cX0_isOn 0 = .ok (.aload_n 0, 1) := by decide +kernel
theorem dX0_isOn_1 : decode cX0_isOn 1 = .ok (.getfield 27, 3) := by decide +kernel
theorem dX0_isOn_4 : decode cX0_isOn 4 = .ok (.iload_n 1, 1) := by decide +kernel
theorem dX0_isOn_5 : decode cX0_isOn 5 = .ok (.ishr, 1) := by decide +kernel
theorem dX0_isOn_6 : decode cX0_isOn 6 = .ok (.iconst 1, 1) := by decide +kernel
theorem dX0_isOn_7 : decode cX0_isOn 7 = .ok (.iand, 1) := by decide +kernel
theorem dX0_isOn_8 : decode cX0_isOn 8 = .ok (.iconst 1, 1) := by decide +kernel
theorem dX0_isOn_9 : decode cX0_isOn 9 = .ok (.if_icmp .ne 7, 3) := by decide +kernel
theorem dX0_isOn_12 : decode cX0_isOn 12 = .ok (.iconst 1, 1) := by decide +kernel
theorem dX0_isOn_13 : decode cX0_isOn 13 = .ok (.goto 4, 3) := by decide +kernel
theorem dX0_isOn_16 : decode cX0_isOn 16 = .ok (.iconst 0, 1) := by decide +kernel
theorem dX0_isOn_17 : decode cX0_isOn 17 = .ok (.ireturn, 1) := by decide +kernel
theorem dX0_isLost_0 : decode cX0_isLost 0 = .ok (.aload_n 0, 1) := by decide +kernel
theorem dX0_isLost_1 : decode cX0_isLost 1 = .ok (.getfield 30, 3) := by decide +kernel
theorem dX0_isLost_4 : decode cX0_isLost 4 = .ok (.iload_n 1, 1) := by decide +kernel
theorem dX0_isLost_5 : decode cX0_isLost 5 = .ok (.ishr, 1) := by decide +kernel
theorem dX0_isLost_6 : decode cX0_isLost 6 = .ok (.iconst 1, 1) := by decide +kernel
theorem dX0_isLost_7 : decode cX0_isLost 7 = .ok (.iand, 1) := by decide +kernel
theorem dX0_isLost_8 : decode cX0_isLost 8 = .ok (.iconst 1, 1) := by decide +kernel
theorem dX0_isLost_9 : decode cX0_isLost 9 = .ok (.if_icmp .ne 7, 3) := by decide +kernel
theorem dX0_isLost_12 : decode cX0_isLost 12 = .ok (.iconst 1, 1) := by decide +kernel
theorem dX0_isLost_13 : decode cX0_isLost 13 = .ok (.goto 4, 3) := by decide +kernel
theorem dX0_isLost_16 : decode cX0_isLost 16 = .ok (.iconst 0, 1) := by decide +kernel
theorem dX0_isLost_17 : decode cX0_isLost 17 = .ok (.ireturn, 1) := by decide +kernel
theorem dX0_add_0 : decode cX0_add 0 = .ok (.aload_n 0, 1) := by decide +kernel
theorem dX0_add_1 : decode cX0_add 1 = .ok (.getfield 24, 3) := by decide +kernel
theorem dX0_add_4 : decode cX0_add 4 = .ok (.istore_n 3, 1) := by decide +kernel
theorem dX0_add_5 : decode cX0_add 5 = .ok (.aload_n 0, 1) := by decide +kernel
theorem dX0_add_6 : decode cX0_add 6 = .ok (.getfield 33, 3) := by decide +kernel
theorem dX0_add_9 : decode cX0_add 9 = .ok (.iload_n 3, 1) := by decide +kernel
theorem dX0_add_10 : decode cX0_add 10 = .ok (.iload_n 1, 1) := by decide +kernel
theorem dX0_add_11 : decode cX0_add 11 = .ok (.iastore, 1) := by decide +kernel
theorem dX0_add_12 : decode cX0_add 12 = .ok (.aload_n 0, 1) := by decide +kernel
theorem dX0_add_13 : decode cX0_add 13 = .ok (.getfield 37, 3) := by decide +kernel
theorem dX0_add_16 : decode cX0_add 16 = .ok (.iload_n 3, 1) := by decide +kernel
theorem dX0_add_17 : decode cX0_add 17 = .ok (.iload_n 2, 1) := by decide +kernel
theorem dX0_add_18 : decode cX0_add 18 = .ok (.iastore, 1) := by decide +kernel
theorem dX0_add_19 : decode cX0_add 19 = .ok (.aload_n 0, 1) := by decide +kernel
theorem dX0_add_20 : decode cX0_add 20 = .ok (.getfield 40, 3) := by decide +kernel
theorem dX0_add_23 : decode cX0_add 23 = .ok (.iload_n 3, 1) := by decide +kernel
theorem dX0_add_24 : decode cX0_add 24 = .ok (.iconst 3, 1) := by decide +kernel
theorem dX0_add_25 : decode cX0_add 25 = .ok (.iastore, 1) := by decide +kernel
theorem dX0_add_26 : decode cX0_add 26 = .ok (.aload_n 0, 1) := by decide +kernel
theorem dX0_add_27 : decode cX0_add 27 = .ok (.getfield 43, 3) := by decide +kernel
theorem dX0_add_30 : decode cX0_add 30 = .ok (.iload_n 3, 1) := by decide +kernel
theorem dX0_add_31 : decode cX0_add 31 = .ok (.bipush 50, 2) := by decide +kernel
theorem dX0_add_33 : decode cX0_add 33 = .ok (.iastore, 1) := by decide +kernel
theorem dX0_add_34 : decode cX0_add 34 = .ok (.aload_n 0, 1) := by decide +kernel
theorem dX0_add_35 : decode cX0_add 35 = .ok (.getfield 46, 3) := by decide +kernel
theorem dX0_add_38 : decode cX0_add 38 = .ok (.iload_n 3, 1) := by decide +kernel
theorem dX0_add_39 : decode cX0_add 39 = .ok (.bipush 30, 2) := by decide +kernel
theorem dX0_add_41 : decode cX0_add 41 = .ok (.iastore, 1) := by decide +kernel
theorem dX0_add_42 : decode cX0_add 42 = .ok (.aload_n 0, 1) := by decide +kernel
theorem dX0_add_43 : decode cX0_add 43 = .ok (.getfield 49, 3) := by decide +kernel
theorem dX0_add_46 : decode cX0_add 46 = .ok (.iload_n 3, 1) := by decide +kernel
theorem dX0_add_47 : decode cX0_add 47 = .ok (.iconst 0, 1) := by decide +kernel
theorem dX0_add_48 : decode cX0_add 48 = .ok (.iastore, 1) := by decide +kernel
theorem dX0_add_49 : decode cX0_add 49 = .ok (.aload_n 0, 1) := by decide +kernel
theorem dX0_add_50 : decode cX0_add 50 = .ok (.dup, 1) := by decide +kernel
theorem dX0_add_51 : decode cX0_add 51 = .ok (.getfield 24, 3) := by decide +kernel
theorem dX0_add_54 : decode cX0_add 54 = .ok (.iconst 1, 1) := by decide +kernel
theorem dX0_add_55 : decode cX0_add 55 = .ok (.iadd, 1) := by decide +kernel
theorem dX0_add_56 : decode cX0_add 56 = .ok (.putfield 24, 3) := by decide +kernel
theorem dX0_add_59 : decode cX0_add 59 = .ok (.iload_n 3, 1) := by decide +kernel
theorem dX0_add_60 : decode cX0_add 60 = .ok (.ireturn, 1) := by decide +kernel
theorem dX0_weightOf_0 : decode cX0_weightOf 0 = .ok (.iconst 1, 1) := by decide +kernel
theorem dX0_weightOf_1 : decode cX0_weightOf 1 = .ok (.aload_n 0, 1) := by decide +kernel
theorem dX0_weightOf_2 : decode cX0_weightOf 2 = .ok (.getfield 43, 3) := by decide +kernel
theorem dX0_weightOf_5 : decode cX0_weightOf 5 = .ok (.iload_n 1, 1) := by decide +kernel
theorem dX0_weightOf_6 : decode cX0_weightOf 6 = .ok (.iaload, 1) := by decide +kernel
theorem dX0_weightOf_7 : decode cX0_weightOf 7 = .ok (.bipush 25, 2) := by decide +kernel
theorem dX0_weightOf_9 : decode cX0_weightOf 9 = .ok (.idiv, 1) := by decide +kernel
theorem dX0_weightOf_10 : decode cX0_weightOf 10 = .ok (.iadd, 1) := by decide +kernel
theorem dX0_weightOf_11 : decode cX0_weightOf 11 = .ok (.istore_n 2, 1) := by decide +kernel
theorem dX0_weightOf_12 : decode cX0_weightOf 12 = .ok (.aload_n 0, 1) := by decide +kernel
theorem dX0_weightOf_13 : decode cX0_weightOf 13 = .ok (.getfield 33, 3) := by decide +kernel
theorem dX0_weightOf_16 : decode cX0_weightOf 16 = .ok (.iload_n 1, 1) := by decide +kernel
theorem dX0_weightOf_17 : decode cX0_weightOf 17 = .ok (.iaload, 1) := by decide +kernel
theorem dX0_weightOf_18 : decode cX0_weightOf 18 = .ok (.tableswitch 46 1 5 #[34, 36, 38, 40, 44], 34) := by decide +kernel
theorem dX0_weightOf_52 : decode cX0_weightOf 52 = .ok (.iload_n 2, 1) := by decide +kernel
theorem dX0_weightOf_53 : decode cX0_weightOf 53 = .ok (.ireturn, 1) := by decide +kernel
theorem dX0_weightOf_54 : decode cX0_weightOf 54 = .ok (.iconst 4, 1) := by decide +kernel
theorem dX0_weightOf_55 : decode cX0_weightOf 55 = .ok (.ireturn, 1) := by decide +kernel
theorem dX0_weightOf_56 : decode cX0_weightOf 56 = .ok (.iconst 5, 1) := by decide +kernel
theorem dX0_weightOf_57 : decode cX0_weightOf 57 = .ok (.ireturn, 1) := by decide +kernel
theorem dX0_weightOf_58 : decode cX0_weightOf 58 = .ok (.iload_n 2, 1) := by decide +kernel
theorem dX0_weightOf_59 : decode cX0_weightOf 59 = .ok (.iconst 1, 1) := by decide +kernel
theorem dX0_weightOf_60 : decode cX0_weightOf 60 = .ok (.iadd, 1) := by decide +kernel
theorem dX0_weightOf_61 : decode cX0_weightOf 61 = .ok (.ireturn, 1) := by decide +kernel
theorem dX0_weightOf_62 : decode cX0_weightOf 62 = .ok (.iconst 2, 1) := by decide +kernel
theorem dX0_weightOf_63 : decode cX0_weightOf 63 = .ok (.ireturn, 1) := by decide +kernel
theorem dX0_weightOf_64 : decode cX0_weightOf 64 = .ok (.iconst 3, 1) := by decide +kernel
theorem dX0_weightOf_65 : decode cX0_weightOf 65 = .ok (.ireturn, 1) := by decide +kernel
set_option maxRecDepth 20000 in
theorem ggX0_weightAt_X0_isOn : GoodIn wsX0_weightAt wsX0_isOn := goodIn_r _ [7, 8, 15, 16, 17, 18, 19, 20, 21, 22, 23, 24, 25, 26, 27] (by decide +kernel) (by decide +kernel)
set_option maxRecDepth 20000 in
theorem gX0_weightAt_X0_isOn : GoodIn wsX0_weightAt (wsV RX0 52 RX0 yX0_isOn wsX0_isOn) := goodIn_app (goodIn_of _ (by decide +kernel)) ggX0_weightAt_X0_isOn
set_option maxRecDepth 20000 in
theorem ggX0_weightAt_X0_weightOf : GoodIn wsX0_weightAt wsX0_weightOf := goodIn_r _ [12, 13, 14, 15, 16, 17, 18, 19, 20, 21, 22, 23, 24, 25, 26, 27] (by decide +kernel) (by decide +kernel)
set_option maxRecDepth 20000 in
theorem gX0_weightAt_X0_weightOf : GoodIn wsX0_weightAt (wsV RX0 56 RX0 yX0_weightOf wsX0_weightOf) := goodIn_app (goodIn_of _ (by decide +kernel)) ggX0_weightAt_X0_weightOf
theorem dX0_weightAt_0 : decode cX0_weightAt 0 = .ok (.iconst 0, 1) := by decide +kernel
theorem dX0_weightAt_1 : decode cX0_weightAt 1 = .ok (.istore_n 2, 1) := by decide +kernel
theorem dX0_weightAt_2 : decode cX0_weightAt 2 = .ok (.iconst 0, 1) := by decide +kernel
theorem dX0_weightAt_3 : decode cX0_weightAt 3 = .ok (.istore_n 3, 1) := by decide +kernel
theorem dX0_weightAt_4 : decode cX0_weightAt 4 = .ok (.iload_n 3, 1) := by decide +kernel
theorem dX0_weightAt_5 : decode cX0_weightAt 5 = .ok (.aload_n 0, 1) := by decide +kernel
theorem dX0_weightAt_6 : decode cX0_weightAt 6 = .ok (.getfield 24, 3) := by decide +kernel
theorem dX0_weightAt_9 : decode cX0_weightAt 9 = .ok (.if_icmp .ge 35, 3) := by decide +kernel
theorem dX0_weightAt_12 : decode cX0_weightAt 12 = .ok (.aload_n 0, 1) := by decide +kernel
theorem dX0_weightAt_13 : decode cX0_weightAt 13 = .ok (.getfield 40, 3) := by decide +kernel
theorem dX0_weightAt_16 : decode cX0_weightAt 16 = .ok (.iload_n 3, 1) := by decide +kernel
theorem dX0_weightAt_17 : decode cX0_weightAt 17 = .ok (.iaload, 1) := by decide +kernel
theorem dX0_weightAt_18 : decode cX0_weightAt 18 = .ok (.iload_n 1, 1) := by decide +kernel
theorem dX0_weightAt_19 : decode cX0_weightAt 19 = .ok (.if_icmp .ne 19, 3) := by decide +kernel
theorem dX0_weightAt_22 : decode cX0_weightAt 22 = .ok (.aload_n 0, 1) := by decide +kernel
theorem dX0_weightAt_23 : decode cX0_weightAt 23 = .ok (.iload_n 3, 1) := by decide +kernel
theorem dX0_weightAt_24 : decode cX0_weightAt 24 = .ok (.invokevirtual 52, 3) := by decide +kernel
theorem dX0_weightAt_27 : decode cX0_weightAt 27 = .ok (.ifCond .eq 11, 3) := by decide +kernel
theorem dX0_weightAt_30 : decode cX0_weightAt 30 = .ok (.iload_n 2, 1) := by decide +kernel
theorem dX0_weightAt_31 : decode cX0_weightAt 31 = .ok (.aload_n 0, 1) := by decide +kernel
theorem dX0_weightAt_32 : decode cX0_weightAt 32 = .ok (.iload_n 3, 1) := by decide +kernel
theorem dX0_weightAt_33 : decode cX0_weightAt 33 = .ok (.invokevirtual 56, 3) := by decide +kernel
theorem dX0_weightAt_36 : decode cX0_weightAt 36 = .ok (.iadd, 1) := by decide +kernel
theorem dX0_weightAt_37 : decode cX0_weightAt 37 = .ok (.istore_n 2, 1) := by decide +kernel
theorem dX0_weightAt_38 : decode cX0_weightAt 38 = .ok (.iinc 3 1, 3) := by decide +kernel
theorem dX0_weightAt_41 : decode cX0_weightAt 41 = .ok (.goto (-37), 3) := by decide +kernel
theorem dX0_weightAt_44 : decode cX0_weightAt 44 = .ok (.iload_n 2, 1) := by decide +kernel
theorem dX0_weightAt_45 : decode cX0_weightAt 45 = .ok (.ireturn, 1) := by decide +kernel
set_option maxRecDepth 20000 in
theorem ggX0_weightOfAll_X0_isOn : GoodIn wsX0_weightOfAll wsX0_isOn := goodIn_r _ [6, 7, 14, 15, 16, 17, 18, 19, 20, 21, 22, 23, 24, 25, 26] (by decide +kernel) (by decide +kernel)
set_option maxRecDepth 20000 in
theorem gX0_weightOfAll_X0_isOn : GoodIn wsX0_weightOfAll (wsV RX0 52 RX0 yX0_isOn wsX0_isOn) := goodIn_app (goodIn_of _ (by decide +kernel)) ggX0_weightOfAll_X0_isOn
set_option maxRecDepth 20000 in
theorem ggX0_weightOfAll_X0_weightOf : GoodIn wsX0_weightOfAll wsX0_weightOf := goodIn_r _ [11, 12, 13, 14, 15, 16, 17, 18, 19, 20, 21, 22, 23, 24, 25, 26] (by decide +kernel) (by decide +kernel)
set_option maxRecDepth 20000 in
theorem gX0_weightOfAll_X0_weightOf : GoodIn wsX0_weightOfAll (wsV RX0 56 RX0 yX0_weightOf wsX0_weightOf) := goodIn_app (goodIn_of _ (by decide +kernel)) ggX0_weightOfAll_X0_weightOf
theorem dX0_weightOfAll_0 : decode cX0_weightOfAll 0 = .ok (.iconst 0, 1) := by decide +kernel
theorem dX0_weightOfAll_1 : decode cX0_weightOfAll 1 = .ok (.istore_n 1, 1) := by decide +kernel
theorem dX0_weightOfAll_2 : decode cX0_weightOfAll 2 = .ok (.iconst 0, 1) := by decide +kernel
theorem dX0_weightOfAll_3 : decode cX0_weightOfAll 3 = .ok (.istore_n 2, 1) := by decide +kernel
theorem dX0_weightOfAll_4 : decode cX0_weightOfAll 4 = .ok (.iload_n 2, 1) := by decide +kernel
theorem dX0_weightOfAll_5 : decode cX0_weightOfAll 5 = .ok (.aload_n 0, 1) := by decide +kernel
theorem dX0_weightOfAll_6 : decode cX0_weightOfAll 6 = .ok (.getfield 24, 3) := by decide +kernel
theorem dX0_weightOfAll_9 : decode cX0_weightOfAll 9 = .ok (.if_icmp .ge 25, 3) := by decide +kernel
theorem dX0_weightOfAll_12 : decode cX0_weightOfAll 12 = .ok (.aload_n 0, 1) := by decide +kernel
theorem dX0_weightOfAll_13 : decode cX0_weightOfAll 13 = .ok (.iload_n 2, 1) := by decide +kernel
theorem dX0_weightOfAll_14 : decode cX0_weightOfAll 14 = .ok (.invokevirtual 52, 3) := by decide +kernel
theorem dX0_weightOfAll_17 : decode cX0_weightOfAll 17 = .ok (.ifCond .eq 11, 3) := by decide +kernel
theorem dX0_weightOfAll_20 : decode cX0_weightOfAll 20 = .ok (.iload_n 1, 1) := by decide +kernel
theorem dX0_weightOfAll_21 : decode cX0_weightOfAll 21 = .ok (.aload_n 0, 1) := by decide +kernel
theorem dX0_weightOfAll_22 : decode cX0_weightOfAll 22 = .ok (.iload_n 2, 1) := by decide +kernel
theorem dX0_weightOfAll_23 : decode cX0_weightOfAll 23 = .ok (.invokevirtual 56, 3) := by decide +kernel
theorem dX0_weightOfAll_26 : decode cX0_weightOfAll 26 = .ok (.iadd, 1) := by decide +kernel
theorem dX0_weightOfAll_27 : decode cX0_weightOfAll 27 = .ok (.istore_n 1, 1) := by decide +kernel
theorem dX0_weightOfAll_28 : decode cX0_weightOfAll 28 = .ok (.iinc 2 1, 3) := by decide +kernel
theorem dX0_weightOfAll_31 : decode cX0_weightOfAll 31 = .ok (.goto (-27), 3) := by decide +kernel
theorem dX0_weightOfAll_34 : decode cX0_weightOfAll 34 = .ok (.iload_n 1, 1) := by decide +kernel
theorem dX0_weightOfAll_35 : decode cX0_weightOfAll 35 = .ok (.ireturn, 1) := by decide +kernel
theorem dX0_bears_0 : decode cX0_bears 0 = .ok (.iconst 0, 1) := by decide +kernel
theorem dX0_bears_1 : decode cX0_bears 1 = .ok (.aload_n 0, 1) := by decide +kernel
theorem dX0_bears_2 : decode cX0_bears 2 = .ok (.getfield 21, 3) := by decide +kernel
theorem dX0_bears_5 : decode cX0_bears 5 = .ok (.iconst 2, 1) := by decide +kernel
theorem dX0_bears_6 : decode cX0_bears 6 = .ok (.iload_n 1, 1) := by decide +kernel
theorem dX0_bears_7 : decode cX0_bears 7 = .ok (.imul, 1) := by decide +kernel
theorem dX0_bears_8 : decode cX0_bears 8 = .ok (.isub, 1) := by decide +kernel
theorem dX0_bears_9 : decode cX0_bears 9 = .ok (.invokestatic 60, 3) := by decide +kernel
theorem dX0_bears_12 : decode cX0_bears 12 = .ok (.ireturn, 1) := by decide +kernel
set_option maxRecDepth 20000 in
theorem ggX0_isBorne_X0_weightAt : GoodIn wsX0_isBorne wsX0_weightAt := goodIn_r _ [6, 7, 1, 8, 9, 10, 5, 11, 12, 13, 14, 15, 16, 17, 18, 28, 29, 30, 31, 32, 33, 34, 35, 36, 37, 38, 39, 40] (by decide +kernel) (by decide +kernel)
set_option maxRecDepth 20000 in
theorem gX0_isBorne_X0_weightAt : GoodIn wsX0_isBorne (wsV RX0 66 RX0 yX0_weightAt wsX0_weightAt) := goodIn_app (goodIn_of _ (by decide +kernel)) ggX0_isBorne_X0_weightAt
set_option maxRecDepth 20000 in
theorem ggX0_isBorne_X0_weightOf : GoodIn wsX0_isBorne wsX0_weightOf := goodIn_r _ [16, 17, 18, 28, 29, 30, 31, 32, 33, 34, 35, 36, 37, 38, 39, 40] (by decide +kernel) (by decide +kernel)
set_option maxRecDepth 20000 in
theorem gX0_isBorne_X0_weightOf : GoodIn wsX0_isBorne (wsV RX0 56 RX0 yX0_weightOf wsX0_weightOf) := goodIn_app (goodIn_of _ (by decide +kernel)) ggX0_isBorne_X0_weightOf
set_option maxRecDepth 20000 in
theorem ggX0_isBorne_X0_bears : GoodIn wsX0_isBorne wsX0_bears := goodIn_r _ [22, 23, 24, 25, 26, 27, 28, 29, 30, 31, 32, 33, 34, 35, 36, 37, 38, 39, 40] (by decide +kernel) (by decide +kernel)
set_option maxRecDepth 20000 in
theorem gX0_isBorne_X0_bears : GoodIn wsX0_isBorne (wsV RX0 69 RX0 yX0_bears wsX0_bears) := goodIn_app (goodIn_of _ (by decide +kernel)) ggX0_isBorne_X0_bears
theorem dX0_isBorne_0 : decode cX0_isBorne 0 = .ok (.aload_n 0, 1) := by decide +kernel
theorem dX0_isBorne_1 : decode cX0_isBorne 1 = .ok (.aload_n 0, 1) := by decide +kernel
theorem dX0_isBorne_2 : decode cX0_isBorne 2 = .ok (.getfield 40, 3) := by decide +kernel
theorem dX0_isBorne_5 : decode cX0_isBorne 5 = .ok (.iload_n 1, 1) := by decide +kernel
theorem dX0_isBorne_6 : decode cX0_isBorne 6 = .ok (.iaload, 1) := by decide +kernel
theorem dX0_isBorne_7 : decode cX0_isBorne 7 = .ok (.invokevirtual 66, 3) := by decide +kernel
theorem dX0_isBorne_10 : decode cX0_isBorne 10 = .ok (.aload_n 0, 1) := by decide +kernel
theorem dX0_isBorne_11 : decode cX0_isBorne 11 = .ok (.iload_n 1, 1) := by decide +kernel
theorem dX0_isBorne_12 : decode cX0_isBorne 12 = .ok (.invokevirtual 56, 3) := by decide +kernel
theorem dX0_isBorne_15 : decode cX0_isBorne 15 = .ok (.iadd, 1) := by decide +kernel
theorem dX0_isBorne_16 : decode cX0_isBorne 16 = .ok (.aload_n 0, 1) := by decide +kernel
theorem dX0_isBorne_17 : decode cX0_isBorne 17 = .ok (.aload_n 0, 1) := by decide +kernel
theorem dX0_isBorne_18 : decode cX0_isBorne 18 = .ok (.getfield 40, 3) := by decide +kernel
theorem dX0_isBorne_21 : decode cX0_isBorne 21 = .ok (.iload_n 1, 1) := by decide +kernel
theorem dX0_isBorne_22 : decode cX0_isBorne 22 = .ok (.iaload, 1) := by decide +kernel
theorem dX0_isBorne_23 : decode cX0_isBorne 23 = .ok (.invokevirtual 69, 3) := by decide +kernel
theorem dX0_isBorne_26 : decode cX0_isBorne 26 = .ok (.if_icmp .gt 7, 3) := by decide +kernel
theorem dX0_isBorne_29 : decode cX0_isBorne 29 = .ok (.iconst 1, 1) := by decide +kernel
theorem dX0_isBorne_30 : decode cX0_isBorne 30 = .ok (.goto 4, 3) := by decide +kernel
theorem dX0_isBorne_33 : decode cX0_isBorne 33 = .ok (.iconst 0, 1) := by decide +kernel
theorem dX0_isBorne_34 : decode cX0_isBorne 34 = .ok (.ireturn, 1) := by decide +kernel
set_option maxRecDepth 20000 in
theorem ggX0_getsOn_J6_bitCount_0f7a4 : GoodIn wsX0_getsOn wsJ6_bitCount_0f7a4 := goodIn_r _ [10, 11, 12, 13] (by decide +kernel) (by decide +kernel)
set_option maxRecDepth 20000 in
theorem gX0_getsOn_J6_bitCount_0f7a4 : GoodIn wsX0_getsOn (va_wsS RX0 72 yJ6_bitCount_0f7a4 wsJ6_bitCount_0f7a4) := goodIn_app (goodIn_of _ (by decide +kernel)) ggX0_getsOn_J6_bitCount_0f7a4
theorem dX0_getsOn_0 : decode cX0_getsOn 0 = .ok (.aload_n 0, 1) := by decide +kernel
theorem dX0_getsOn_1 : decode cX0_getsOn 1 = .ok (.getfield 33, 3) := by decide +kernel
theorem dX0_getsOn_4 : decode cX0_getsOn 4 = .ok (.iload_n 1, 1) := by decide +kernel
theorem dX0_getsOn_5 : decode cX0_getsOn 5 = .ok (.iaload, 1) := by decide +kernel
theorem dX0_getsOn_6 : decode cX0_getsOn 6 = .ok (.tableswitch 138 1 5 #[34, 49, 70, 87, 110], 34) := by decide +kernel
theorem dX0_getsOn_40 : decode cX0_getsOn 40 = .ok (.aload_n 0, 1) := by decide +kernel
theorem dX0_getsOn_41 : decode cX0_getsOn 41 = .ok (.getfield 43, 3) := by decide +kernel
theorem dX0_getsOn_44 : decode cX0_getsOn 44 = .ok (.iload_n 1, 1) := by decide +kernel
theorem dX0_getsOn_45 : decode cX0_getsOn 45 = .ok (.iaload, 1) := by decide +kernel
theorem dX0_getsOn_46 : decode cX0_getsOn 46 = .ok (.ifCond .le 7, 3) := by decide +kernel
theorem dX0_getsOn_49 : decode cX0_getsOn 49 = .ok (.iconst 1, 1) := by decide +kernel
theorem dX0_getsOn_50 : decode cX0_getsOn 50 = .ok (.goto 4, 3) := by decide +kernel
theorem dX0_getsOn_53 : decode cX0_getsOn 53 = .ok (.iconst 0, 1) := by decide +kernel
theorem dX0_getsOn_54 : decode cX0_getsOn 54 = .ok (.ireturn, 1) := by decide +kernel
theorem dX0_getsOn_55 : decode cX0_getsOn 55 = .ok (.aload_n 0, 1) := by decide +kernel
theorem dX0_getsOn_56 : decode cX0_getsOn 56 = .ok (.getfield 37, 3) := by decide +kernel
theorem dX0_getsOn_59 : decode cX0_getsOn 59 = .ok (.iload_n 1, 1) := by decide +kernel
theorem dX0_getsOn_60 : decode cX0_getsOn 60 = .ok (.iaload, 1) := by decide +kernel
theorem dX0_getsOn_61 : decode cX0_getsOn 61 = .ok (.aload_n 0, 1) := by decide +kernel
theorem dX0_getsOn_62 : decode cX0_getsOn 62 = .ok (.getfield 46, 3) := by decide +kernel
theorem dX0_getsOn_65 : decode cX0_getsOn 65 = .ok (.iload_n 1, 1) := by decide +kernel
theorem dX0_getsOn_66 : decode cX0_getsOn 66 = .ok (.iaload, 1) := by decide +kernel
theorem dX0_getsOn_67 : decode cX0_getsOn 67 = .ok (.if_icmp .eq 7, 3) := by decide +kernel
theorem dX0_getsOn_70 : decode cX0_getsOn 70 = .ok (.iconst 1, 1) := by decide +kernel
theorem dX0_getsOn_71 : decode cX0_getsOn 71 = .ok (.goto 4, 3) := by decide +kernel
theorem dX0_getsOn_74 : decode cX0_getsOn 74 = .ok (.iconst 0, 1) := by decide +kernel
theorem dX0_getsOn_75 : decode cX0_getsOn 75 = .ok (.ireturn, 1) := by decide +kernel
theorem dX0_getsOn_76 : decode cX0_getsOn 76 = .ok (.aload_n 0, 1) := by decide +kernel
theorem dX0_getsOn_77 : decode cX0_getsOn 77 = .ok (.getfield 27, 3) := by decide +kernel
theorem dX0_getsOn_80 : decode cX0_getsOn 80 = .ok (.invokestatic 72, 3) := by decide +kernel
theorem dX0_getsOn_83 : decode cX0_getsOn 83 = .ok (.iconst 3, 1) := by decide +kernel
theorem dX0_getsOn_84 : decode cX0_getsOn 84 = .ok (.if_icmp .ge 7, 3) := by decide +kernel
theorem dX0_getsOn_87 : decode cX0_getsOn 87 = .ok (.iconst 1, 1) := by decide +kernel
theorem dX0_getsOn_88 : decode cX0_getsOn 88 = .ok (.goto 4, 3) := by decide +kernel
theorem dX0_getsOn_91 : decode cX0_getsOn 91 = .ok (.iconst 0, 1) := by decide +kernel
theorem dX0_getsOn_92 : decode cX0_getsOn 92 = .ok (.ireturn, 1) := by decide +kernel
theorem dX0_getsOn_93 : decode cX0_getsOn 93 = .ok (.aload_n 0, 1) := by decide +kernel
theorem dX0_getsOn_94 : decode cX0_getsOn 94 = .ok (.getfield 43, 3) := by decide +kernel
theorem dX0_getsOn_97 : decode cX0_getsOn 97 = .ok (.iload_n 1, 1) := by decide +kernel
theorem dX0_getsOn_98 : decode cX0_getsOn 98 = .ok (.iaload, 1) := by decide +kernel
theorem dX0_getsOn_99 : decode cX0_getsOn 99 = .ok (.ifCond .le 15, 3) := by decide +kernel
theorem dX0_getsOn_102 : decode cX0_getsOn 102 = .ok (.aload_n 0, 1) := by decide +kernel
theorem dX0_getsOn_103 : decode cX0_getsOn 103 = .ok (.getfield 18, 3) := by decide +kernel
theorem dX0_getsOn_106 : decode cX0_getsOn 106 = .ok (.iconst 5, 1) := by decide +kernel
theorem dX0_getsOn_107 : decode cX0_getsOn 107 = .ok (.if_icmp .gt 7, 3) := by decide +kernel
theorem dX0_getsOn_110 : decode cX0_getsOn 110 = .ok (.iconst 1, 1) := by decide +kernel
theorem dX0_getsOn_111 : decode cX0_getsOn 111 = .ok (.goto 4, 3) := by decide +kernel
theorem dX0_getsOn_114 : decode cX0_getsOn 114 = .ok (.iconst 0, 1) := by decide +kernel
theorem dX0_getsOn_115 : decode cX0_getsOn 115 = .ok (.ireturn, 1) := by decide +kernel
theorem dX0_getsOn_116 : decode cX0_getsOn 116 = .ok (.aload_n 0, 1) := by decide +kernel
theorem dX0_getsOn_117 : decode cX0_getsOn 117 = .ok (.getfield 37, 3) := by decide +kernel
theorem dX0_getsOn_120 : decode cX0_getsOn 120 = .ok (.iload_n 1, 1) := by decide +kernel
theorem dX0_getsOn_121 : decode cX0_getsOn 121 = .ok (.iaload, 1) := by decide +kernel
theorem dX0_getsOn_122 : decode cX0_getsOn 122 = .ok (.aload_n 0, 1) := by decide +kernel
theorem dX0_getsOn_123 : decode cX0_getsOn 123 = .ok (.getfield 46, 3) := by decide +kernel
theorem dX0_getsOn_126 : decode cX0_getsOn 126 = .ok (.iload_n 1, 1) := by decide +kernel
theorem dX0_getsOn_127 : decode cX0_getsOn 127 = .ok (.iaload, 1) := by decide +kernel
theorem dX0_getsOn_128 : decode cX0_getsOn 128 = .ok (.if_icmp .eq 14, 3) := by decide +kernel
theorem dX0_getsOn_131 : decode cX0_getsOn 131 = .ok (.aload_n 0, 1) := by decide +kernel
theorem dX0_getsOn_132 : decode cX0_getsOn 132 = .ok (.getfield 27, 3) := by decide +kernel
theorem dX0_getsOn_135 : decode cX0_getsOn 135 = .ok (.ifCond .eq 7, 3) := by decide +kernel
theorem dX0_getsOn_138 : decode cX0_getsOn 138 = .ok (.iconst 1, 1) := by decide +kernel
theorem dX0_getsOn_139 : decode cX0_getsOn 139 = .ok (.goto 4, 3) := by decide +kernel
theorem dX0_getsOn_142 : decode cX0_getsOn 142 = .ok (.iconst 0, 1) := by decide +kernel
theorem dX0_getsOn_143 : decode cX0_getsOn 143 = .ok (.ireturn, 1) := by decide +kernel
theorem dX0_getsOn_144 : decode cX0_getsOn 144 = .ok (.iconst 0, 1) := by decide +kernel
theorem dX0_getsOn_145 : decode cX0_getsOn 145 = .ok (.ireturn, 1) := by decide +kernel
theorem dX0_getsOff_0 : decode cX0_getsOff 0 = .ok (.aload_n 0, 1) := by decide +kernel
theorem dX0_getsOff_1 : decode cX0_getsOff 1 = .ok (.getfield 33, 3) := by decide +kernel
theorem dX0_getsOff_4 : decode cX0_getsOff 4 = .ok (.iload_n 1, 1) := by decide +kernel
theorem dX0_getsOff_5 : decode cX0_getsOff 5 = .ok (.iaload, 1) := by decide +kernel
theorem dX0_getsOff_6 : decode cX0_getsOff 6 = .ok (.tableswitch 145 1 5 #[34, 49, 68, 92, 116], 34) := by decide +kernel
theorem dX0_getsOff_40 : decode cX0_getsOff 40 = .ok (.aload_n 0, 1) := by decide +kernel
theorem dX0_getsOff_41 : decode cX0_getsOff 41 = .ok (.getfield 43, 3) := by decide +kernel
theorem dX0_getsOff_44 : decode cX0_getsOff 44 = .ok (.iload_n 1, 1) := by decide +kernel
theorem dX0_getsOff_45 : decode cX0_getsOff 45 = .ok (.iaload, 1) := by decide +kernel
theorem dX0_getsOff_46 : decode cX0_getsOff 46 = .ok (.ifCond .ne 7, 3) := by decide +kernel
theorem dX0_getsOff_49 : decode cX0_getsOff 49 = .ok (.iconst 1, 1) := by decide +kernel
theorem dX0_getsOff_50 : decode cX0_getsOff 50 = .ok (.goto 4, 3) := by decide +kernel
theorem dX0_getsOff_53 : decode cX0_getsOff 53 = .ok (.iconst 0, 1) := by decide +kernel
theorem dX0_getsOff_54 : decode cX0_getsOff 54 = .ok (.ireturn, 1) := by decide +kernel
theorem dX0_getsOff_55 : decode cX0_getsOff 55 = .ok (.aload_n 0, 1) := by decide +kernel
theorem dX0_getsOff_56 : decode cX0_getsOff 56 = .ok (.getfield 15, 3) := by decide +kernel
theorem dX0_getsOff_59 : decode cX0_getsOff 59 = .ok (.aload_n 0, 1) := by decide +kernel
theorem dX0_getsOff_60 : decode cX0_getsOff 60 = .ok (.getfield 46, 3) := by decide +kernel
theorem dX0_getsOff_63 : decode cX0_getsOff 63 = .ok (.iload_n 1, 1) := by decide +kernel
theorem dX0_getsOff_64 : decode cX0_getsOff 64 = .ok (.iaload, 1) := by decide +kernel
theorem dX0_getsOff_65 : decode cX0_getsOff 65 = .ok (.if_icmp .ne 7, 3) := by decide +kernel
theorem dX0_getsOff_68 : decode cX0_getsOff 68 = .ok (.iconst 1, 1) := by decide +kernel
theorem dX0_getsOff_69 : decode cX0_getsOff 69 = .ok (.goto 4, 3) := by decide +kernel
theorem dX0_getsOff_72 : decode cX0_getsOff 72 = .ok (.iconst 0, 1) := by decide +kernel
theorem dX0_getsOff_73 : decode cX0_getsOff 73 = .ok (.ireturn, 1) := by decide +kernel
theorem dX0_getsOff_74 : decode cX0_getsOff 74 = .ok (.aload_n 0, 1) := by decide +kernel
theorem dX0_getsOff_75 : decode cX0_getsOff 75 = .ok (.getfield 15, 3) := by decide +kernel
theorem dX0_getsOff_78 : decode cX0_getsOff 78 = .ok (.bipush 38, 2) := by decide +kernel
theorem dX0_getsOff_80 : decode cX0_getsOff 80 = .ok (.if_icmp .eq 12, 3) := by decide +kernel
theorem dX0_getsOff_83 : decode cX0_getsOff 83 = .ok (.aload_n 0, 1) := by decide +kernel
theorem dX0_getsOff_84 : decode cX0_getsOff 84 = .ok (.getfield 15, 3) := by decide +kernel
theorem dX0_getsOff_87 : decode cX0_getsOff 87 = .ok (.bipush 39, 2) := by decide +kernel
theorem dX0_getsOff_89 : decode cX0_getsOff 89 = .ok (.if_icmp .ne 7, 3) := by decide +kernel
theorem dX0_getsOff_92 : decode cX0_getsOff 92 = .ok (.iconst 1, 1) := by decide +kernel
theorem dX0_getsOff_93 : decode cX0_getsOff 93 = .ok (.goto 4, 3) := by decide +kernel
theorem dX0_getsOff_96 : decode cX0_getsOff 96 = .ok (.iconst 0, 1) := by decide +kernel
theorem dX0_getsOff_97 : decode cX0_getsOff 97 = .ok (.ireturn, 1) := by decide +kernel
theorem dX0_getsOff_98 : decode cX0_getsOff 98 = .ok (.aload_n 0, 1) := by decide +kernel
theorem dX0_getsOff_99 : decode cX0_getsOff 99 = .ok (.getfield 43, 3) := by decide +kernel
theorem dX0_getsOff_102 : decode cX0_getsOff 102 = .ok (.iload_n 1, 1) := by decide +kernel
theorem dX0_getsOff_103 : decode cX0_getsOff 103 = .ok (.iaload, 1) := by decide +kernel
theorem dX0_getsOff_104 : decode cX0_getsOff 104 = .ok (.ifCond .eq 12, 3) := by decide +kernel
theorem dX0_getsOff_107 : decode cX0_getsOff 107 = .ok (.aload_n 0, 1) := by decide +kernel
theorem dX0_getsOff_108 : decode cX0_getsOff 108 = .ok (.getfield 15, 3) := by decide +kernel
theorem dX0_getsOff_111 : decode cX0_getsOff 111 = .ok (.bipush 35, 2) := by decide +kernel
theorem dX0_getsOff_113 : decode cX0_getsOff 113 = .ok (.if_icmp .lt 7, 3) := by decide +kernel
theorem dX0_getsOff_116 : decode cX0_getsOff 116 = .ok (.iconst 1, 1) := by decide +kernel
theorem dX0_getsOff_117 : decode cX0_getsOff 117 = .ok (.goto 4, 3) := by decide +kernel
theorem dX0_getsOff_120 : decode cX0_getsOff 120 = .ok (.iconst 0, 1) := by decide +kernel
theorem dX0_getsOff_121 : decode cX0_getsOff 121 = .ok (.ireturn, 1) := by decide +kernel
theorem dX0_getsOff_122 : decode cX0_getsOff 122 = .ok (.aload_n 0, 1) := by decide +kernel
theorem dX0_getsOff_123 : decode cX0_getsOff 123 = .ok (.getfield 15, 3) := by decide +kernel
theorem dX0_getsOff_126 : decode cX0_getsOff 126 = .ok (.aload_n 0, 1) := by decide +kernel
theorem dX0_getsOff_127 : decode cX0_getsOff 127 = .ok (.getfield 46, 3) := by decide +kernel
theorem dX0_getsOff_130 : decode cX0_getsOff 130 = .ok (.iload_n 1, 1) := by decide +kernel
theorem dX0_getsOff_131 : decode cX0_getsOff 131 = .ok (.iaload, 1) := by decide +kernel
theorem dX0_getsOff_132 : decode cX0_getsOff 132 = .ok (.if_icmp .eq 13, 3) := by decide +kernel
theorem dX0_getsOff_135 : decode cX0_getsOff 135 = .ok (.aload_n 0, 1) := by decide +kernel
theorem dX0_getsOff_136 : decode cX0_getsOff 136 = .ok (.getfield 27, 3) := by decide +kernel
theorem dX0_getsOff_139 : decode cX0_getsOff 139 = .ok (.iconst 1, 1) := by decide +kernel
theorem dX0_getsOff_140 : decode cX0_getsOff 140 = .ok (.iload_n 1, 1) := by decide +kernel
theorem dX0_getsOff_141 : decode cX0_getsOff 141 = .ok (.ishl, 1) := by decide +kernel
theorem dX0_getsOff_142 : decode cX0_getsOff 142 = .ok (.if_icmp .ne 7, 3) := by decide +kernel
theorem dX0_getsOff_145 : decode cX0_getsOff 145 = .ok (.iconst 1, 1) := by decide +kernel
theorem dX0_getsOff_146 : decode cX0_getsOff 146 = .ok (.goto 4, 3) := by decide +kernel
theorem dX0_getsOff_149 : decode cX0_getsOff 149 = .ok (.iconst 0, 1) := by decide +kernel
theorem dX0_getsOff_150 : decode cX0_getsOff 150 = .ok (.ireturn, 1) := by decide +kernel
theorem dX0_getsOff_151 : decode cX0_getsOff 151 = .ok (.iconst 0, 1) := by decide +kernel
theorem dX0_getsOff_152 : decode cX0_getsOff 152 = .ok (.ireturn, 1) := by decide +kernel
theorem dX0_dries_0 : decode cX0_dries 0 = .ok (.iconst 3, 1) := by decide +kernel
theorem dX0_dries_1 : decode cX0_dries 1 = .ok (.aload_n 0, 1) := by decide +kernel
theorem dX0_dries_2 : decode cX0_dries 2 = .ok (.getfield 40, 3) := by decide +kernel
theorem dX0_dries_5 : decode cX0_dries 5 = .ok (.iload_n 1, 1) := by decide +kernel
theorem dX0_dries_6 : decode cX0_dries 6 = .ok (.iaload, 1) := by decide +kernel
theorem dX0_dries_7 : decode cX0_dries 7 = .ok (.iconst 3, 1) := by decide +kernel
theorem dX0_dries_8 : decode cX0_dries 8 = .ok (.idiv, 1) := by decide +kernel
theorem dX0_dries_9 : decode cX0_dries 9 = .ok (.iadd, 1) := by decide +kernel
theorem dX0_dries_10 : decode cX0_dries 10 = .ok (.istore_n 2, 1) := by decide +kernel
theorem dX0_dries_11 : decode cX0_dries 11 = .ok (.aload_n 0, 1) := by decide +kernel
theorem dX0_dries_12 : decode cX0_dries 12 = .ok (.getfield 33, 3) := by decide +kernel
theorem dX0_dries_15 : decode cX0_dries 15 = .ok (.iload_n 1, 1) := by decide +kernel
theorem dX0_dries_16 : decode cX0_dries 16 = .ok (.iaload, 1) := by decide +kernel
theorem dX0_dries_17 : decode cX0_dries 17 = .ok (.tableswitch 44 1 4 #[31, 44, 33, 35], 31) := by decide +kernel
theorem dX0_dries_48 : decode cX0_dries 48 = .ok (.iload_n 2, 1) := by decide +kernel
theorem dX0_dries_49 : decode cX0_dries 49 = .ok (.ireturn, 1) := by decide +kernel
theorem dX0_dries_50 : decode cX0_dries 50 = .ok (.iconst 0, 1) := by decide +kernel
theorem dX0_dries_51 : decode cX0_dries 51 = .ok (.ireturn, 1) := by decide +kernel
theorem dX0_dries_52 : decode cX0_dries 52 = .ok (.iload_n 2, 1) := by decide +kernel
theorem dX0_dries_53 : decode cX0_dries 53 = .ok (.aload_n 0, 1) := by decide +kernel
theorem dX0_dries_54 : decode cX0_dries 54 = .ok (.getfield 18, 3) := by decide +kernel
theorem dX0_dries_57 : decode cX0_dries 57 = .ok (.iconst 2, 1) := by decide +kernel
theorem dX0_dries_58 : decode cX0_dries 58 = .ok (.idiv, 1) := by decide +kernel
theorem dX0_dries_59 : decode cX0_dries 59 = .ok (.iadd, 1) := by decide +kernel
theorem dX0_dries_60 : decode cX0_dries 60 = .ok (.ireturn, 1) := by decide +kernel
theorem dX0_dries_61 : decode cX0_dries 61 = .ok (.iconst 1, 1) := by decide +kernel
theorem dX0_dries_62 : decode cX0_dries 62 = .ok (.ireturn, 1) := by decide +kernel
theorem dX0_comeOn_0 : decode cX0_comeOn 0 = .ok (.aload_n 0, 1) := by decide +kernel
theorem dX0_comeOn_1 : decode cX0_comeOn 1 = .ok (.dup, 1) := by decide +kernel
theorem dX0_comeOn_2 : decode cX0_comeOn 2 = .ok (.getfield 27, 3) := by decide +kernel
theorem dX0_comeOn_5 : decode cX0_comeOn 5 = .ok (.iconst 1, 1) := by decide +kernel
theorem dX0_comeOn_6 : decode cX0_comeOn 6 = .ok (.iload_n 1, 1) := by decide +kernel
theorem dX0_comeOn_7 : decode cX0_comeOn 7 = .ok (.ishl, 1) := by decide +kernel
theorem dX0_comeOn_8 : decode cX0_comeOn 8 = .ok (.ior, 1) := by decide +kernel
theorem dX0_comeOn_9 : decode cX0_comeOn 9 = .ok (.putfield 27, 3) := by decide +kernel
theorem dX0_comeOn_12 : decode cX0_comeOn 12 = .ok (.aload_n 0, 1) := by decide +kernel
theorem dX0_comeOn_13 : decode cX0_comeOn 13 = .ok (.getfield 49, 3) := by decide +kernel
theorem dX0_comeOn_16 : decode cX0_comeOn 16 = .ok (.iload_n 1, 1) := by decide +kernel
theorem dX0_comeOn_17 : decode cX0_comeOn 17 = .ok (.aload_n 0, 1) := by decide +kernel
theorem dX0_comeOn_18 : decode cX0_comeOn 18 = .ok (.getfield 49, 3) := by decide +kernel
theorem dX0_comeOn_21 : decode cX0_comeOn 21 = .ok (.iload_n 1, 1) := by decide +kernel
theorem dX0_comeOn_22 : decode cX0_comeOn 22 = .ok (.iaload, 1) := by decide +kernel
theorem dX0_comeOn_23 : decode cX0_comeOn 23 = .ok (.iconst 1, 1) := by decide +kernel
theorem dX0_comeOn_24 : decode cX0_comeOn 24 = .ok (.iadd, 1) := by decide +kernel
theorem dX0_comeOn_25 : decode cX0_comeOn 25 = .ok (.sipush 9999, 3) := by decide +kernel
theorem dX0_comeOn_28 : decode cX0_comeOn 28 = .ok (.invokestatic 77, 3) := by decide +kernel
theorem dX0_comeOn_31 : decode cX0_comeOn 31 = .ok (.iastore, 1) := by decide +kernel
theorem dX0_comeOn_32 : decode cX0_comeOn 32 = .ok (.return_, 1) := by decide +kernel
theorem dX0_goOff_0 : decode cX0_goOff 0 = .ok (.aload_n 0, 1) := by decide +kernel
theorem dX0_goOff_1 : decode cX0_goOff 1 = .ok (.dup, 1) := by decide +kernel
theorem dX0_goOff_2 : decode cX0_goOff 2 = .ok (.getfield 27, 3) := by decide +kernel
theorem dX0_goOff_5 : decode cX0_goOff 5 = .ok (.iconst 1, 1) := by decide +kernel
theorem dX0_goOff_6 : decode cX0_goOff 6 = .ok (.iload_n 1, 1) := by decide +kernel
theorem dX0_goOff_7 : decode cX0_goOff 7 = .ok (.ishl, 1) := by decide +kernel
theorem dX0_goOff_8 : decode cX0_goOff 8 = .ok (.iconst (-1), 1) := by decide +kernel
theorem dX0_goOff_9 : decode cX0_goOff 9 = .ok (.ixor, 1) := by decide +kernel
theorem dX0_goOff_10 : decode cX0_goOff 10 = .ok (.iand, 1) := by decide +kernel
theorem dX0_goOff_11 : decode cX0_goOff 11 = .ok (.putfield 27, 3) := by decide +kernel
theorem dX0_goOff_14 : decode cX0_goOff 14 = .ok (.aload_n 0, 1) := by decide +kernel
theorem dX0_goOff_15 : decode cX0_goOff 15 = .ok (.getfield 37, 3) := by decide +kernel
theorem dX0_goOff_18 : decode cX0_goOff 18 = .ok (.iload_n 1, 1) := by decide +kernel
theorem dX0_goOff_19 : decode cX0_goOff 19 = .ok (.aload_n 0, 1) := by decide +kernel
theorem dX0_goOff_20 : decode cX0_goOff 20 = .ok (.getfield 15, 3) := by decide +kernel
theorem dX0_goOff_23 : decode cX0_goOff 23 = .ok (.iastore, 1) := by decide +kernel
theorem dX0_goOff_24 : decode cX0_goOff 24 = .ok (.return_, 1) := by decide +kernel
set_option maxRecDepth 20000 in
theorem ggX0_goSeconds_X0_passBearing : GoodIn wsX0_goSeconds wsX0_passBearing := goodIn_r _ [9, 10, 1, 11, 3, 12, 13, 14, 15, 8, 16, 17, 18, 19, 20, 21, 22, 23, 24, 25, 26, 27, 28, 29, 30, 31, 2, 32, 33, 34, 35, 36, 37, 38, 39, 40, 41, 42, 43, 44, 45, 46, 47, 48, 49, 50, 51, 52, 53, 54, 55, 56, 57, 58, 59, 60, 61, 62, 63, 64, 65, 66, 67, 68, 69, 70, 71, 72, 81, 82, 83, 84, 85, 86, 87, 88, 89, 90, 91, 92, 93] (by decide +kernel) (by decide +kernel)
set_option maxRecDepth 20000 in
theorem gX0_goSeconds_X0_passBearing : GoodIn wsX0_goSeconds (wsV RX0 80 RX0 yX0_passBearing wsX0_passBearing) := goodIn_app (goodIn_of _ (by decide +kernel)) ggX0_goSeconds_X0_passBearing
set_option maxRecDepth 20000 in
theorem ggX0_goSeconds_X0_dryAndRide : GoodIn wsX0_goSeconds wsX0_dryAndRide := goodIn_r _ [76, 10, 22, 61, 62, 63, 64, 11, 3, 48, 49, 50, 8, 51, 1, 77, 78, 79, 80, 43, 21, 2, 81, 82, 83, 84, 85, 86, 87, 88, 89, 90, 91, 92, 93] (by decide +kernel) (by decide +kernel)
set_option maxRecDepth 20000 in
theorem gX0_goSeconds_X0_dryAndRide : GoodIn wsX0_goSeconds (wsV RX0 84 RX0 yX0_dryAndRide wsX0_dryAndRide) := goodIn_app (goodIn_of _ (by decide +kernel)) ggX0_goSeconds_X0_dryAndRide
theorem dX0_goSeconds_0 : decode cX0_goSeconds 0 = .ok (.iconst 0, 1) := by decide +kernel
theorem dX0_goSeconds_1 : decode cX0_goSeconds 1 = .ok (.istore_n 2, 1) := by decide +kernel
theorem dX0_goSeconds_2 : decode cX0_goSeconds 2 = .ok (.iload_n 2, 1) := by decide +kernel
theorem dX0_goSeconds_3 : decode cX0_goSeconds 3 = .ok (.iload_n 1, 1) := by decide +kernel
theorem dX0_goSeconds_4 : decode cX0_goSeconds 4 = .ok (.if_icmp .ge 74, 3) := by decide +kernel
theorem dX0_goSeconds_7 : decode cX0_goSeconds 7 = .ok (.aload_n 0, 1) := by decide +kernel
theorem dX0_goSeconds_8 : decode cX0_goSeconds 8 = .ok (.getfield 27, 3) := by decide +kernel
theorem dX0_goSeconds_11 : decode cX0_goSeconds 11 = .ok (.istore_n 3, 1) := by decide +kernel
theorem dX0_goSeconds_12 : decode cX0_goSeconds 12 = .ok (.iconst 0, 1) := by decide +kernel
theorem dX0_goSeconds_13 : decode cX0_goSeconds 13 = .ok (.istore 4, 2) := by decide +kernel
theorem dX0_goSeconds_15 : decode cX0_goSeconds 15 = .ok (.iload 4, 2) := by decide +kernel
theorem dX0_goSeconds_17 : decode cX0_goSeconds 17 = .ok (.aload_n 0, 1) := by decide +kernel
theorem dX0_goSeconds_18 : decode cX0_goSeconds 18 = .ok (.getfield 18, 3) := by decide +kernel
theorem dX0_goSeconds_21 : decode cX0_goSeconds 21 = .ok (.if_icmp .ge 37, 3) := by decide +kernel
theorem dX0_goSeconds_24 : decode cX0_goSeconds 24 = .ok (.aload_n 0, 1) := by decide +kernel
theorem dX0_goSeconds_25 : decode cX0_goSeconds 25 = .ok (.aload_n 0, 1) := by decide +kernel
theorem dX0_goSeconds_26 : decode cX0_goSeconds 26 = .ok (.getfield 15, 3) := by decide +kernel
theorem dX0_goSeconds_29 : decode cX0_goSeconds 29 = .ok (.bipush 59, 2) := by decide +kernel
theorem dX0_goSeconds_31 : decode cX0_goSeconds 31 = .ok (.if_icmp .lt 7, 3) := by decide +kernel
theorem dX0_goSeconds_34 : decode cX0_goSeconds 34 = .ok (.iconst 0, 1) := by decide +kernel
theorem dX0_goSeconds_35 : decode cX0_goSeconds 35 = .ok (.goto 9, 3) := by decide +kernel
theorem dX0_goSeconds_38 : decode cX0_goSeconds 38 = .ok (.aload_n 0, 1) := by decide +kernel
theorem dX0_goSeconds_39 : decode cX0_goSeconds 39 = .ok (.getfield 15, 3) := by decide +kernel
theorem dX0_goSeconds_42 : decode cX0_goSeconds 42 = .ok (.iconst 1, 1) := by decide +kernel
theorem dX0_goSeconds_43 : decode cX0_goSeconds 43 = .ok (.iadd, 1) := by decide +kernel
theorem dX0_goSeconds_44 : decode cX0_goSeconds 44 = .ok (.putfield 15, 3) := by decide +kernel
theorem dX0_goSeconds_47 : decode cX0_goSeconds 47 = .ok (.aload_n 0, 1) := by decide +kernel
theorem dX0_goSeconds_48 : decode cX0_goSeconds 48 = .ok (.iload_n 3, 1) := by decide +kernel
theorem dX0_goSeconds_49 : decode cX0_goSeconds 49 = .ok (.invokevirtual 80, 3) := by decide +kernel
theorem dX0_goSeconds_52 : decode cX0_goSeconds 52 = .ok (.iinc 4 1, 3) := by decide +kernel
theorem dX0_goSeconds_55 : decode cX0_goSeconds 55 = .ok (.goto (-40), 3) := by decide +kernel
theorem dX0_goSeconds_58 : decode cX0_goSeconds 58 = .ok (.aload_n 0, 1) := by decide +kernel
theorem dX0_goSeconds_59 : decode cX0_goSeconds 59 = .ok (.invokevirtual 84, 3) := by decide +kernel
theorem dX0_goSeconds_62 : decode cX0_goSeconds 62 = .ok (.aload_n 0, 1) := by decide +kernel
theorem dX0_goSeconds_63 : decode cX0_goSeconds 63 = .ok (.dup, 1) := by decide +kernel
theorem dX0_goSeconds_64 : decode cX0_goSeconds 64 = .ok (.getfield 9, 3) := by decide +kernel
theorem dX0_goSeconds_67 : decode cX0_goSeconds 67 = .ok (.iconst 1, 1) := by decide +kernel
theorem dX0_goSeconds_68 : decode cX0_goSeconds 68 = .ok (.iadd, 1) := by decide +kernel
theorem dX0_goSeconds_69 : decode cX0_goSeconds 69 = .ok (.putfield 9, 3) := by decide +kernel
theorem dX0_goSeconds_72 : decode cX0_goSeconds 72 = .ok (.iinc 2 1, 3) := by decide +kernel
theorem dX0_goSeconds_75 : decode cX0_goSeconds 75 = .ok (.goto (-73), 3) := by decide +kernel
theorem dX0_goSeconds_78 : decode cX0_goSeconds 78 = .ok (.return_, 1) := by decide +kernel
set_option maxRecDepth 20000 in
theorem ggX0_passBearing_X0_leaveOrBeLost : GoodIn wsX0_passBearing wsX0_leaveOrBeLost := goodIn_r _ [10, 4, 5, 11, 12, 13, 9, 14, 15, 16, 17, 2, 18, 19, 20, 21, 3, 68, 69, 70, 71, 72, 73, 74, 75, 76, 77, 78, 79, 80] (by decide +kernel) (by decide +kernel)
set_option maxRecDepth 20000 in
theorem gX0_passBearing_X0_leaveOrBeLost : GoodIn wsX0_passBearing (wsV RX0 87 RX0 yX0_leaveOrBeLost wsX0_leaveOrBeLost) := goodIn_app (goodIn_of _ (by decide +kernel)) ggX0_passBearing_X0_leaveOrBeLost
set_option maxRecDepth 20000 in
theorem ggX0_passBearing_X0_getsOn : GoodIn wsX0_passBearing wsX0_getsOn := goodIn_r _ [25, 15, 16, 3, 17, 2, 26, 27, 28, 29, 30, 31, 32, 33, 68, 69, 70, 71, 72, 73, 74, 75, 76, 77, 78, 79, 80] (by decide +kernel) (by decide +kernel)
set_option maxRecDepth 20000 in
theorem gX0_passBearing_X0_getsOn : GoodIn wsX0_passBearing (wsV RX0 90 RX0 yX0_getsOn wsX0_getsOn) := goodIn_app (goodIn_of _ (by decide +kernel)) ggX0_passBearing_X0_getsOn
set_option maxRecDepth 20000 in
theorem ggX0_passBearing_X0_isBorne : GoodIn wsX0_passBearing wsX0_isBorne := goodIn_r _ [37, 38, 39, 40, 41, 9, 42, 1, 43, 44, 45, 46, 2, 47, 48, 49, 50, 16, 15, 51, 52, 53, 54, 55, 56, 57, 58, 59, 68, 69, 70, 71, 72, 73, 74, 75, 76, 77, 78, 79, 80] (by decide +kernel) (by decide +kernel)
set_option maxRecDepth 20000 in
theorem gX0_passBearing_X0_isBorne : GoodIn wsX0_passBearing (wsV RX0 93 RX0 yX0_isBorne wsX0_isBorne) := goodIn_app (goodIn_of _ (by decide +kernel)) ggX0_passBearing_X0_isBorne
set_option maxRecDepth 20000 in
theorem ggX0_passBearing_X0_comeOn : GoodIn wsX0_passBearing wsX0_comeOn := goodIn_r _ [63, 2, 64, 65, 66, 58, 67, 68, 69, 70, 71, 72, 73, 74, 75, 76, 77, 78, 79, 80] (by decide +kernel) (by decide +kernel)
set_option maxRecDepth 20000 in
theorem gX0_passBearing_X0_comeOn : GoodIn wsX0_passBearing (wsV RX0 96 RX0 yX0_comeOn wsX0_comeOn) := goodIn_app (goodIn_of _ (by decide +kernel)) ggX0_passBearing_X0_comeOn
theorem dX0_passBearing_0 : decode cX0_passBearing 0 = .ok (.iconst 0, 1) := by decide +kernel
theorem dX0_passBearing_1 : decode cX0_passBearing 1 = .ok (.istore_n 2, 1) := by decide +kernel
theorem dX0_passBearing_2 : decode cX0_passBearing 2 = .ok (.iload_n 2, 1) := by decide +kernel
theorem dX0_passBearing_3 : decode cX0_passBearing 3 = .ok (.aload_n 0, 1) := by decide +kernel
theorem dX0_passBearing_4 : decode cX0_passBearing 4 = .ok (.getfield 24, 3) := by decide +kernel
theorem dX0_passBearing_7 : decode cX0_passBearing 7 = .ok (.if_icmp .ge 75, 3) := by decide +kernel
theorem dX0_passBearing_10 : decode cX0_passBearing 10 = .ok (.iconst 1, 1) := by decide +kernel
theorem dX0_passBearing_11 : decode cX0_passBearing 11 = .ok (.iload_n 2, 1) := by decide +kernel
theorem dX0_passBearing_12 : decode cX0_passBearing 12 = .ok (.ishl, 1) := by decide +kernel
theorem dX0_passBearing_13 : decode cX0_passBearing 13 = .ok (.istore_n 3, 1) := by decide +kernel
theorem dX0_passBearing_14 : decode cX0_passBearing 14 = .ok (.aload_n 0, 1) := by decide +kernel
theorem dX0_passBearing_15 : decode cX0_passBearing 15 = .ok (.getfield 27, 3) := by decide +kernel
theorem dX0_passBearing_18 : decode cX0_passBearing 18 = .ok (.iload_n 3, 1) := by decide +kernel
theorem dX0_passBearing_19 : decode cX0_passBearing 19 = .ok (.iand, 1) := by decide +kernel
theorem dX0_passBearing_20 : decode cX0_passBearing 20 = .ok (.ifCond .eq 11, 3) := by decide +kernel
theorem dX0_passBearing_23 : decode cX0_passBearing 23 = .ok (.aload_n 0, 1) := by decide +kernel
theorem dX0_passBearing_24 : decode cX0_passBearing 24 = .ok (.iload_n 2, 1) := by decide +kernel
theorem dX0_passBearing_25 : decode cX0_passBearing 25 = .ok (.invokevirtual 87, 3) := by decide +kernel
theorem dX0_passBearing_28 : decode cX0_passBearing 28 = .ok (.goto 48, 3) := by decide +kernel
theorem dX0_passBearing_31 : decode cX0_passBearing 31 = .ok (.aload_n 0, 1) := by decide +kernel
theorem dX0_passBearing_32 : decode cX0_passBearing 32 = .ok (.getfield 37, 3) := by decide +kernel
theorem dX0_passBearing_35 : decode cX0_passBearing 35 = .ok (.iload_n 2, 1) := by decide +kernel
theorem dX0_passBearing_36 : decode cX0_passBearing 36 = .ok (.iaload, 1) := by decide +kernel
theorem dX0_passBearing_37 : decode cX0_passBearing 37 = .ok (.aload_n 0, 1) := by decide +kernel
theorem dX0_passBearing_38 : decode cX0_passBearing 38 = .ok (.getfield 15, 3) := by decide +kernel
theorem dX0_passBearing_41 : decode cX0_passBearing 41 = .ok (.if_icmp .ne 35, 3) := by decide +kernel
theorem dX0_passBearing_44 : decode cX0_passBearing 44 = .ok (.iload_n 1, 1) := by decide +kernel
theorem dX0_passBearing_45 : decode cX0_passBearing 45 = .ok (.aload_n 0, 1) := by decide +kernel
theorem dX0_passBearing_46 : decode cX0_passBearing 46 = .ok (.getfield 30, 3) := by decide +kernel
theorem dX0_passBearing_49 : decode cX0_passBearing 49 = .ok (.ior, 1) := by decide +kernel
theorem dX0_passBearing_50 : decode cX0_passBearing 50 = .ok (.iload_n 3, 1) := by decide +kernel
theorem dX0_passBearing_51 : decode cX0_passBearing 51 = .ok (.iand, 1) := by decide +kernel
theorem dX0_passBearing_52 : decode cX0_passBearing 52 = .ok (.ifCond .ne 24, 3) := by decide +kernel
theorem dX0_passBearing_55 : decode cX0_passBearing 55 = .ok (.aload_n 0, 1) := by decide +kernel
theorem dX0_passBearing_56 : decode cX0_passBearing 56 = .ok (.iload_n 2, 1) := by decide +kernel
theorem dX0_passBearing_57 : decode cX0_passBearing 57 = .ok (.invokevirtual 90, 3) := by decide +kernel
theorem dX0_passBearing_60 : decode cX0_passBearing 60 = .ok (.ifCond .eq 16, 3) := by decide +kernel
theorem dX0_passBearing_63 : decode cX0_passBearing 63 = .ok (.aload_n 0, 1) := by decide +kernel
theorem dX0_passBearing_64 : decode cX0_passBearing 64 = .ok (.iload_n 2, 1) := by decide +kernel
theorem dX0_passBearing_65 : decode cX0_passBearing 65 = .ok (.invokevirtual 93, 3) := by decide +kernel
theorem dX0_passBearing_68 : decode cX0_passBearing 68 = .ok (.ifCond .eq 8, 3) := by decide +kernel
theorem dX0_passBearing_71 : decode cX0_passBearing 71 = .ok (.aload_n 0, 1) := by decide +kernel
theorem dX0_passBearing_72 : decode cX0_passBearing 72 = .ok (.iload_n 2, 1) := by decide +kernel
theorem dX0_passBearing_73 : decode cX0_passBearing 73 = .ok (.invokevirtual 96, 3) := by decide +kernel
theorem dX0_passBearing_76 : decode cX0_passBearing 76 = .ok (.iinc 2 1, 3) := by decide +kernel
theorem dX0_passBearing_79 : decode cX0_passBearing 79 = .ok (.goto (-77), 3) := by decide +kernel
theorem dX0_passBearing_82 : decode cX0_passBearing 82 = .ok (.return_, 1) := by decide +kernel
set_option maxRecDepth 20000 in
theorem ggX0_leaveOrBeLost_X0_getsOff : GoodIn wsX0_leaveOrBeLost wsX0_getsOff := goodIn_r _ [7, 8, 9, 1, 10, 11, 17, 18, 19, 20, 21, 22, 23, 24, 25, 26, 27, 28, 29] (by decide +kernel) (by decide +kernel)
set_option maxRecDepth 20000 in
theorem gX0_leaveOrBeLost_X0_getsOff : GoodIn wsX0_leaveOrBeLost (wsV RX0 99 RX0 yX0_getsOff wsX0_getsOff) := goodIn_app (goodIn_of _ (by decide +kernel)) ggX0_leaveOrBeLost_X0_getsOff
set_option maxRecDepth 20000 in
theorem ggX0_leaveOrBeLost_X0_goOff : GoodIn wsX0_leaveOrBeLost wsX0_goOff := goodIn_r _ [15, 11, 16, 1, 17, 18, 19, 20, 21, 22, 23, 24, 25, 26, 27, 28, 29] (by decide +kernel) (by decide +kernel)
set_option maxRecDepth 20000 in
theorem gX0_leaveOrBeLost_X0_goOff : GoodIn wsX0_leaveOrBeLost (wsV RX0 102 RX0 yX0_goOff wsX0_goOff) := goodIn_app (goodIn_of _ (by decide +kernel)) ggX0_leaveOrBeLost_X0_goOff
theorem dX0_leaveOrBeLost_0 : decode cX0_leaveOrBeLost 0 = .ok (.aload_n 0, 1) := by decide +kernel
theorem dX0_leaveOrBeLost_1 : decode cX0_leaveOrBeLost 1 = .ok (.iload_n 1, 1) := by decide +kernel
theorem dX0_leaveOrBeLost_2 : decode cX0_leaveOrBeLost 2 = .ok (.invokevirtual 99, 3) := by decide +kernel
theorem dX0_leaveOrBeLost_5 : decode cX0_leaveOrBeLost 5 = .ok (.ifCond .eq 11, 3) := by decide +kernel
theorem dX0_leaveOrBeLost_8 : decode cX0_leaveOrBeLost 8 = .ok (.aload_n 0, 1) := by decide +kernel
theorem dX0_leaveOrBeLost_9 : decode cX0_leaveOrBeLost 9 = .ok (.iload_n 1, 1) := by decide +kernel
theorem dX0_leaveOrBeLost_10 : decode cX0_leaveOrBeLost 10 = .ok (.invokevirtual 102, 3) := by decide +kernel
theorem dX0_leaveOrBeLost_13 : decode cX0_leaveOrBeLost 13 = .ok (.goto 29, 3) := by decide +kernel
theorem dX0_leaveOrBeLost_16 : decode cX0_leaveOrBeLost 16 = .ok (.aload_n 0, 1) := by decide +kernel
theorem dX0_leaveOrBeLost_17 : decode cX0_leaveOrBeLost 17 = .ok (.getfield 15, 3) := by decide +kernel
theorem dX0_leaveOrBeLost_20 : decode cX0_leaveOrBeLost 20 = .ok (.bipush 58, 2) := by decide +kernel
theorem dX0_leaveOrBeLost_22 : decode cX0_leaveOrBeLost 22 = .ok (.if_icmp .ne 20, 3) := by decide +kernel
theorem dX0_leaveOrBeLost_25 : decode cX0_leaveOrBeLost 25 = .ok (.aload_n 0, 1) := by decide +kernel
theorem dX0_leaveOrBeLost_26 : decode cX0_leaveOrBeLost 26 = .ok (.iload_n 1, 1) := by decide +kernel
theorem dX0_leaveOrBeLost_27 : decode cX0_leaveOrBeLost 27 = .ok (.invokevirtual 102, 3) := by decide +kernel
theorem dX0_leaveOrBeLost_30 : decode cX0_leaveOrBeLost 30 = .ok (.aload_n 0, 1) := by decide +kernel
theorem dX0_leaveOrBeLost_31 : decode cX0_leaveOrBeLost 31 = .ok (.dup, 1) := by decide +kernel
theorem dX0_leaveOrBeLost_32 : decode cX0_leaveOrBeLost 32 = .ok (.getfield 30, 3) := by decide +kernel
theorem dX0_leaveOrBeLost_35 : decode cX0_leaveOrBeLost 35 = .ok (.iconst 1, 1) := by decide +kernel
theorem dX0_leaveOrBeLost_36 : decode cX0_leaveOrBeLost 36 = .ok (.iload_n 1, 1) := by decide +kernel
theorem dX0_leaveOrBeLost_37 : decode cX0_leaveOrBeLost 37 = .ok (.ishl, 1) := by decide +kernel
theorem dX0_leaveOrBeLost_38 : decode cX0_leaveOrBeLost 38 = .ok (.ior, 1) := by decide +kernel
theorem dX0_leaveOrBeLost_39 : decode cX0_leaveOrBeLost 39 = .ok (.putfield 30, 3) := by decide +kernel
theorem dX0_leaveOrBeLost_42 : decode cX0_leaveOrBeLost 42 = .ok (.return_, 1) := by decide +kernel
set_option maxRecDepth 20000 in
theorem ggX0_dryAndRide_X0_isOn : GoodIn wsX0_dryAndRide wsX0_isOn := goodIn_r _ [13, 14, 22, 23, 24, 25, 26, 27, 28, 29, 30, 31, 32, 33, 34] (by decide +kernel) (by decide +kernel)
set_option maxRecDepth 20000 in
theorem gX0_dryAndRide_X0_isOn : GoodIn wsX0_dryAndRide (wsV RX0 52 RX0 yX0_isOn wsX0_isOn) := goodIn_app (goodIn_of _ (by decide +kernel)) ggX0_dryAndRide_X0_isOn
set_option maxRecDepth 20000 in
theorem ggX0_dryAndRide_X0_dries : GoodIn wsX0_dryAndRide wsX0_dries := goodIn_r _ [18, 19, 20, 21, 22, 23, 24, 25, 26, 27, 28, 29, 30, 31, 32, 33, 34] (by decide +kernel) (by decide +kernel)
set_option maxRecDepth 20000 in
theorem gX0_dryAndRide_X0_dries : GoodIn wsX0_dryAndRide (wsV RX0 105 RX0 yX0_dries wsX0_dries) := goodIn_app (goodIn_of _ (by decide +kernel)) ggX0_dryAndRide_X0_dries
theorem dX0_dryAndRide_0 : decode cX0_dryAndRide 0 = .ok (.iconst 0, 1) := by decide +kernel
theorem dX0_dryAndRide_1 : decode cX0_dryAndRide 1 = .ok (.istore_n 1, 1) := by decide +kernel
theorem dX0_dryAndRide_2 : decode cX0_dryAndRide 2 = .ok (.iload_n 1, 1) := by decide +kernel
theorem dX0_dryAndRide_3 : decode cX0_dryAndRide 3 = .ok (.aload_n 0, 1) := by decide +kernel
theorem dX0_dryAndRide_4 : decode cX0_dryAndRide 4 = .ok (.getfield 24, 3) := by decide +kernel
theorem dX0_dryAndRide_7 : decode cX0_dryAndRide 7 = .ok (.if_icmp .ge 49, 3) := by decide +kernel
theorem dX0_dryAndRide_10 : decode cX0_dryAndRide 10 = .ok (.aload_n 0, 1) := by decide +kernel
theorem dX0_dryAndRide_11 : decode cX0_dryAndRide 11 = .ok (.iload_n 1, 1) := by decide +kernel
theorem dX0_dryAndRide_12 : decode cX0_dryAndRide 12 = .ok (.invokevirtual 52, 3) := by decide +kernel
theorem dX0_dryAndRide_15 : decode cX0_dryAndRide 15 = .ok (.ifCond .eq 35, 3) := by decide +kernel
theorem dX0_dryAndRide_18 : decode cX0_dryAndRide 18 = .ok (.aload_n 0, 1) := by decide +kernel
theorem dX0_dryAndRide_19 : decode cX0_dryAndRide 19 = .ok (.getfield 43, 3) := by decide +kernel
theorem dX0_dryAndRide_22 : decode cX0_dryAndRide 22 = .ok (.iload_n 1, 1) := by decide +kernel
theorem dX0_dryAndRide_23 : decode cX0_dryAndRide 23 = .ok (.iconst 0, 1) := by decide +kernel
theorem dX0_dryAndRide_24 : decode cX0_dryAndRide 24 = .ok (.aload_n 0, 1) := by decide +kernel
theorem dX0_dryAndRide_25 : decode cX0_dryAndRide 25 = .ok (.getfield 43, 3) := by decide +kernel
theorem dX0_dryAndRide_28 : decode cX0_dryAndRide 28 = .ok (.iload_n 1, 1) := by decide +kernel
theorem dX0_dryAndRide_29 : decode cX0_dryAndRide 29 = .ok (.iaload, 1) := by decide +kernel
theorem dX0_dryAndRide_30 : decode cX0_dryAndRide 30 = .ok (.aload_n 0, 1) := by decide +kernel
theorem dX0_dryAndRide_31 : decode cX0_dryAndRide 31 = .ok (.iload_n 1, 1) := by decide +kernel
theorem dX0_dryAndRide_32 : decode cX0_dryAndRide 32 = .ok (.invokevirtual 105, 3) := by decide +kernel
theorem dX0_dryAndRide_35 : decode cX0_dryAndRide 35 = .ok (.isub, 1) := by decide +kernel
theorem dX0_dryAndRide_36 : decode cX0_dryAndRide 36 = .ok (.invokestatic 60, 3) := by decide +kernel
theorem dX0_dryAndRide_39 : decode cX0_dryAndRide 39 = .ok (.iastore, 1) := by decide +kernel
theorem dX0_dryAndRide_40 : decode cX0_dryAndRide 40 = .ok (.aload_n 0, 1) := by decide +kernel
theorem dX0_dryAndRide_41 : decode cX0_dryAndRide 41 = .ok (.getfield 37, 3) := by decide +kernel
theorem dX0_dryAndRide_44 : decode cX0_dryAndRide 44 = .ok (.iload_n 1, 1) := by decide +kernel
theorem dX0_dryAndRide_45 : decode cX0_dryAndRide 45 = .ok (.aload_n 0, 1) := by decide +kernel
theorem dX0_dryAndRide_46 : decode cX0_dryAndRide 46 = .ok (.getfield 15, 3) := by decide +kernel
theorem dX0_dryAndRide_49 : decode cX0_dryAndRide 49 = .ok (.iastore, 1) := by decide +kernel
theorem dX0_dryAndRide_50 : decode cX0_dryAndRide 50 = .ok (.iinc 1 1, 3) := by decide +kernel
theorem dX0_dryAndRide_53 : decode cX0_dryAndRide 53 = .ok (.goto (-51), 3) := by decide +kernel
theorem dX0_dryAndRide_56 : decode cX0_dryAndRide 56 = .ok (.return_, 1) := by decide +kernel
set_option maxRecDepth 20000 in
theorem ggX0_isSo_X0_isOn : GoodIn wsX0_isSo wsX0_isOn := goodIn_r _ [8, 9, 15, 16, 17, 18, 19, 20, 21, 22, 23, 24, 25, 26, 27] (by decide +kernel) (by decide +kernel)
set_option maxRecDepth 20000 in
theorem gX0_isSo_X0_isOn : GoodIn wsX0_isSo (wsV RX0 52 RX0 yX0_isOn wsX0_isOn) := goodIn_app (goodIn_of _ (by decide +kernel)) ggX0_isSo_X0_isOn
set_option maxRecDepth 20000 in
theorem ggX0_isSo_X0_isLost : GoodIn wsX0_isSo wsX0_isLost := goodIn_r _ [13, 14, 15, 16, 17, 18, 19, 20, 21, 22, 23, 24, 25, 26, 27] (by decide +kernel) (by decide +kernel)
set_option maxRecDepth 20000 in
theorem gX0_isSo_X0_isLost : GoodIn wsX0_isSo (wsV RX0 108 RX0 yX0_isLost wsX0_isLost) := goodIn_app (goodIn_of _ (by decide +kernel)) ggX0_isSo_X0_isLost
theorem dX0_isSo_0 : decode cX0_isSo 0 = .ok (.iload_n 2, 1) := by decide +kernel
theorem dX0_isSo_1 : decode cX0_isSo 1 = .ok (.tableswitch 54 0 2 #[27, 33, 48], 27) := by decide +kernel
theorem dX0_isSo_28 : decode cX0_isSo 28 = .ok (.aload_n 0, 1) := by decide +kernel
theorem dX0_isSo_29 : decode cX0_isSo 29 = .ok (.iload_n 1, 1) := by decide +kernel
theorem dX0_isSo_30 : decode cX0_isSo 30 = .ok (.invokevirtual 52, 3) := by decide +kernel
theorem dX0_isSo_33 : decode cX0_isSo 33 = .ok (.ireturn, 1) := by decide +kernel
theorem dX0_isSo_34 : decode cX0_isSo 34 = .ok (.aload_n 0, 1) := by decide +kernel
theorem dX0_isSo_35 : decode cX0_isSo 35 = .ok (.getfield 43, 3) := by decide +kernel
theorem dX0_isSo_38 : decode cX0_isSo 38 = .ok (.iload_n 1, 1) := by decide +kernel
theorem dX0_isSo_39 : decode cX0_isSo 39 = .ok (.iaload, 1) := by decide +kernel
theorem dX0_isSo_40 : decode cX0_isSo 40 = .ok (.ifCond .ne 7, 3) := by decide +kernel
theorem dX0_isSo_43 : decode cX0_isSo 43 = .ok (.iconst 1, 1) := by decide +kernel
theorem dX0_isSo_44 : decode cX0_isSo 44 = .ok (.goto 4, 3) := by decide +kernel
theorem dX0_isSo_47 : decode cX0_isSo 47 = .ok (.iconst 0, 1) := by decide +kernel
theorem dX0_isSo_48 : decode cX0_isSo 48 = .ok (.ireturn, 1) := by decide +kernel
theorem dX0_isSo_49 : decode cX0_isSo 49 = .ok (.aload_n 0, 1) := by decide +kernel
theorem dX0_isSo_50 : decode cX0_isSo 50 = .ok (.iload_n 1, 1) := by decide +kernel
theorem dX0_isSo_51 : decode cX0_isSo 51 = .ok (.invokevirtual 108, 3) := by decide +kernel
theorem dX0_isSo_54 : decode cX0_isSo 54 = .ok (.ireturn, 1) := by decide +kernel
theorem dX0_isSo_55 : decode cX0_isSo 55 = .ok (.aload_n 0, 1) := by decide +kernel
theorem dX0_isSo_56 : decode cX0_isSo 56 = .ok (.getfield 37, 3) := by decide +kernel
theorem dX0_isSo_59 : decode cX0_isSo 59 = .ok (.iload_n 1, 1) := by decide +kernel
theorem dX0_isSo_60 : decode cX0_isSo 60 = .ok (.iaload, 1) := by decide +kernel
theorem dX0_isSo_61 : decode cX0_isSo 61 = .ok (.aload_n 0, 1) := by decide +kernel
theorem dX0_isSo_62 : decode cX0_isSo 62 = .ok (.getfield 46, 3) := by decide +kernel
theorem dX0_isSo_65 : decode cX0_isSo 65 = .ok (.iload_n 1, 1) := by decide +kernel
theorem dX0_isSo_66 : decode cX0_isSo 66 = .ok (.iaload, 1) := by decide +kernel
theorem dX0_isSo_67 : decode cX0_isSo 67 = .ok (.if_icmp .ne 15, 3) := by decide +kernel
theorem dX0_isSo_70 : decode cX0_isSo 70 = .ok (.aload_n 0, 1) := by decide +kernel
theorem dX0_isSo_71 : decode cX0_isSo 71 = .ok (.iload_n 1, 1) := by decide +kernel
theorem dX0_isSo_72 : decode cX0_isSo 72 = .ok (.invokevirtual 52, 3) := by decide +kernel
theorem dX0_isSo_75 : decode cX0_isSo 75 = .ok (.ifCond .ne 7, 3) := by decide +kernel
theorem dX0_isSo_78 : decode cX0_isSo 78 = .ok (.iconst 1, 1) := by decide +kernel
theorem dX0_isSo_79 : decode cX0_isSo 79 = .ok (.goto 4, 3) := by decide +kernel
theorem dX0_isSo_82 : decode cX0_isSo 82 = .ok (.iconst 0, 1) := by decide +kernel
theorem dX0_isSo_83 : decode cX0_isSo 83 = .ok (.ireturn, 1) := by decide +kernel
end
section
theorem dX1_init_0 : decode cX1_init 0 = .ok (.aload_n 0, 1) := by decide +kernel
theorem dX1_init_1 : decode cX1_init 1 = .ok (.invokespecial 3, 3) := by decide +kernel
theorem dX1_init_4 : decode cX1_init 4 = .ok (.aload_n 0, 1) := by decide +kernel
theorem dX1_init_5 : decode cX1_init 5 = .ok (.iconst 0, 1) := by decide +kernel
theorem dX1_init_6 : decode cX1_init 6 = .ok (.putfield 9, 3) := by decide +kernel
theorem dX1_init_9 : decode cX1_init 9 = .ok (.aload_n 0, 1) := by decide +kernel
theorem dX1_init_10 : decode cX1_init 10 = .ok (.iconst 0, 1) := by decide +kernel
theorem dX1_init_11 : decode cX1_init 11 = .ok (.putfield 15, 3) := by decide +kernel
theorem dX1_init_14 : decode cX1_init 14 = .ok (.aload_n 0, 1) := by decide +kernel
theorem dX1_init_15 : decode cX1_init 15 = .ok (.bipush 40, 2) := by decide +kernel
theorem dX1_init_17 : decode cX1_init 17 = .ok (.newarray .long, 2) := by decide +kernel
theorem dX1_init_19 : decode cX1_init 19 = .ok (.putfield 18, 3) := by decide +kernel
theorem dX1_init_22 : decode cX1_init 22 = .ok (.return_, 1) := by decide +kernel
theorem dX1_renew_0 : decode cX1_renew 0 = .ok (.aload_n 0, 1) := by decide +kernel
theorem dX1_renew_1 : decode cX1_renew 1 = .ok (.iload_n 1, 1) := by decide +kernel
theorem dX1_renew_2 : decode cX1_renew 2 = .ok (.putfield 9, 3) := by decide +kernel
theorem dX1_renew_5 : decode cX1_renew 5 = .ok (.aload_n 0, 1) := by decide +kernel
theorem dX1_renew_6 : decode cX1_renew 6 = .ok (.iload_n 1, 1) := by decide +kernel
theorem dX1_renew_7 : decode cX1_renew 7 = .ok (.ifCond .ne 7, 3) := by decide +kernel
theorem dX1_renew_10 : decode cX1_renew 10 = .ok (.iconst 0, 1) := by decide +kernel
theorem dX1_renew_11 : decode cX1_renew 11 = .ok (.goto 4, 3) := by decide +kernel
theorem dX1_renew_14 : decode cX1_renew 14 = .ok (.iload_n 2, 1) := by decide +kernel
theorem dX1_renew_15 : decode cX1_renew 15 = .ok (.putfield 15, 3) := by decide +kernel
theorem dX1_renew_18 : decode cX1_renew 18 = .ok (.iconst 0, 1) := by decide +kernel
theorem dX1_renew_19 : decode cX1_renew 19 = .ok (.istore_n 3, 1) := by decide +kernel
theorem dX1_renew_20 : decode cX1_renew 20 = .ok (.iload_n 3, 1) := by decide +kernel
theorem dX1_renew_21 : decode cX1_renew 21 = .ok (.aload_n 0, 1) := by decide +kernel
theorem dX1_renew_22 : decode cX1_renew 22 = .ok (.getfield 15, 3) := by decide +kernel
theorem dX1_renew_25 : decode cX1_renew 25 = .ok (.if_icmp .ge 16, 3) := by decide +kernel
theorem dX1_renew_28 : decode cX1_renew 28 = .ok (.aload_n 0, 1) := by decide +kernel
theorem dX1_renew_29 : decode cX1_renew 29 = .ok (.getfield 18, 3) := by decide +kernel
theorem dX1_renew_32 : decode cX1_renew 32 = .ok (.iload_n 3, 1) := by decide +kernel
theorem dX1_renew_33 : decode cX1_renew 33 = .ok (.lconst 0, 1) := by decide +kernel
theorem dX1_renew_34 : decode cX1_renew 34 = .ok (.lastore, 1) := by decide +kernel
theorem dX1_renew_35 : decode cX1_renew 35 = .ok (.iinc 3 1, 3) := by decide +kernel
theorem dX1_renew_38 : decode cX1_renew 38 = .ok (.goto (-18), 3) := by decide +kernel
theorem dX1_renew_41 : decode cX1_renew 41 = .ok (.return_, 1) := by decide +kernel
theorem dX1_put_0 : decode cX1_put 0 = .ok (.aload_n 0, 1) := by decide +kernel
theorem dX1_put_1 : decode cX1_put 1 = .ok (.getfield 9, 3) := by decide +kernel
theorem dX1_put_4 : decode cX1_put 4 = .ok (.bipush 8, 2) := by decide +kernel
theorem dX1_put_6 : decode cX1_put 6 = .ok (.if_icmp .ne 16, 3) := by decide +kernel
theorem dX1_put_9 : decode cX1_put 9 = .ok (.aload_n 0, 1) := by decide +kernel
theorem dX1_put_10 : decode cX1_put 10 = .ok (.getfield 18, 3) := by decide +kernel
theorem dX1_put_13 : decode cX1_put 13 = .ok (.iload_n 1, 1) := by decide +kernel
theorem dX1_put_14 : decode cX1_put 14 = .ok (.lload_n 2, 1) := by decide +kernel
theorem dX1_put_15 : decode cX1_put 15 = .ok (.l2i, 1) := by decide +kernel
theorem dX1_put_16 : decode cX1_put 16 = .ok (.i2b, 1) := by decide +kernel
theorem dX1_put_17 : decode cX1_put 17 = .ok (.i2l, 1) := by decide +kernel
theorem dX1_put_18 : decode cX1_put 18 = .ok (.lastore, 1) := by decide +kernel
theorem dX1_put_19 : decode cX1_put 19 = .ok (.goto 32, 3) := by decide +kernel
theorem dX1_put_22 : decode cX1_put 22 = .ok (.aload_n 0, 1) := by decide +kernel
theorem dX1_put_23 : decode cX1_put 23 = .ok (.getfield 9, 3) := by decide +kernel
theorem dX1_put_26 : decode cX1_put 26 = .ok (.bipush 16, 2) := by decide +kernel
theorem dX1_put_28 : decode cX1_put 28 = .ok (.if_icmp .ne 16, 3) := by decide +kernel
theorem dX1_put_31 : decode cX1_put 31 = .ok (.aload_n 0, 1) := by decide +kernel
theorem dX1_put_32 : decode cX1_put 32 = .ok (.getfield 18, 3) := by decide +kernel
theorem dX1_put_35 : decode cX1_put 35 = .ok (.iload_n 1, 1) := by decide +kernel
theorem dX1_put_36 : decode cX1_put 36 = .ok (.lload_n 2, 1) := by decide +kernel
theorem dX1_put_37 : decode cX1_put 37 = .ok (.l2i, 1) := by decide +kernel
theorem dX1_put_38 : decode cX1_put 38 = .ok (.i2s, 1) := by decide +kernel
theorem dX1_put_39 : decode cX1_put 39 = .ok (.i2l, 1) := by decide +kernel
theorem dX1_put_40 : decode cX1_put 40 = .ok (.lastore, 1) := by decide +kernel
theorem dX1_put_41 : decode cX1_put 41 = .ok (.goto 10, 3) := by decide +kernel
theorem dX1_put_44 : decode cX1_put 44 = .ok (.aload_n 0, 1) := by decide +kernel
theorem dX1_put_45 : decode cX1_put 45 = .ok (.getfield 18, 3) := by decide +kernel
theorem dX1_put_48 : decode cX1_put 48 = .ok (.iload_n 1, 1) := by decide +kernel
theorem dX1_put_49 : decode cX1_put 49 = .ok (.lload_n 2, 1) := by decide +kernel
theorem dX1_put_50 : decode cX1_put 50 = .ok (.lastore, 1) := by decide +kernel
theorem dX1_put_51 : decode cX1_put 51 = .ok (.return_, 1) := by decide +kernel
theorem dX1_hasNumbers_0 : decode cX1_hasNumbers 0 = .ok (.iload_n 1, 1) := by decide +kernel
theorem dX1_hasNumbers_1 : decode cX1_hasNumbers 1 = .ok (.ifCond .lt 29, 3) := by decide +kernel
theorem dX1_hasNumbers_4 : decode cX1_hasNumbers 4 = .ok (.iload_n 2, 1) := by decide +kernel
theorem dX1_hasNumbers_5 : decode cX1_hasNumbers 5 = .ok (.ifCond .lt 25, 3) := by decide +kernel
theorem dX1_hasNumbers_8 : decode cX1_hasNumbers 8 = .ok (.iload_n 1, 1) := by decide +kernel
theorem dX1_hasNumbers_9 : decode cX1_hasNumbers 9 = .ok (.aload_n 0, 1) := by decide +kernel
theorem dX1_hasNumbers_10 : decode cX1_hasNumbers 10 = .ok (.getfield 15, 3) := by decide +kernel
theorem dX1_hasNumbers_13 : decode cX1_hasNumbers 13 = .ok (.if_icmp .gt 17, 3) := by decide +kernel
theorem dX1_hasNumbers_16 : decode cX1_hasNumbers 16 = .ok (.iload_n 2, 1) := by decide +kernel
theorem dX1_hasNumbers_17 : decode cX1_hasNumbers 17 = .ok (.aload_n 0, 1) := by decide +kernel
theorem dX1_hasNumbers_18 : decode cX1_hasNumbers 18 = .ok (.getfield 15, 3) := by decide +kernel
theorem dX1_hasNumbers_21 : decode cX1_hasNumbers 21 = .ok (.iload_n 1, 1) := by decide +kernel
theorem dX1_hasNumbers_22 : decode cX1_hasNumbers 22 = .ok (.isub, 1) := by decide +kernel
theorem dX1_hasNumbers_23 : decode cX1_hasNumbers 23 = .ok (.if_icmp .gt 7, 3) := by decide +kernel
theorem dX1_hasNumbers_26 : decode cX1_hasNumbers 26 = .ok (.iconst 1, 1) := by decide +kernel
theorem dX1_hasNumbers_27 : decode cX1_hasNumbers 27 = .ok (.goto 4, 3) := by decide +kernel
theorem dX1_hasNumbers_30 : decode cX1_hasNumbers 30 = .ok (.iconst 0, 1) := by decide +kernel
theorem dX1_hasNumbers_31 : decode cX1_hasNumbers 31 = .ok (.ireturn, 1) := by decide +kernel
end
section
theorem dX2_init_0 : decode cX2_init 0 = .ok (.aload_n 0, 1) := by decide +kernel
theorem dX2_init_1 : decode cX2_init 1 = .ok (.invokespecial 3, 3) := by decide +kernel
theorem dX2_init_4 : decode cX2_init 4 = .ok (.aload_n 0, 1) := by decide +kernel
theorem dX2_init_5 : decode cX2_init 5 = .ok (.bipush 120, 2) := by decide +kernel
theorem dX2_init_7 : decode cX2_init 7 = .ok (.newarray .byte, 2) := by decide +kernel
theorem dX2_init_9 : decode cX2_init 9 = .ok (.putfield 9, 3) := by decide +kernel
theorem dX2_init_12 : decode cX2_init 12 = .ok (.aload_n 0, 1) := by decide +kernel
theorem dX2_init_13 : decode cX2_init 13 = .ok (.iconst 0, 1) := by decide +kernel
theorem dX2_init_14 : decode cX2_init 14 = .ok (.putfield 15, 3) := by decide +kernel
theorem dX2_init_17 : decode cX2_init 17 = .ok (.aload_n 0, 1) := by decide +kernel
theorem dX2_init_18 : decode cX2_init 18 = .ok (.bipush 121, 2) := by decide +kernel
theorem dX2_init_20 : decode cX2_init 20 = .ok (.newarray .int, 2) := by decide +kernel
theorem dX2_init_22 : decode cX2_init 22 = .ok (.putfield 19, 3) := by decide +kernel
theorem dX2_init_25 : decode cX2_init 25 = .ok (.aload_n 0, 1) := by decide +kernel
theorem dX2_init_26 : decode cX2_init 26 = .ok (.bipush 121, 2) := by decide +kernel
theorem dX2_init_28 : decode cX2_init 28 = .ok (.newarray .int, 2) := by decide +kernel
theorem dX2_init_30 : decode cX2_init 30 = .ok (.putfield 23, 3) := by decide +kernel
theorem dX2_init_33 : decode cX2_init 33 = .ok (.aload_n 0, 1) := by decide +kernel
theorem dX2_init_34 : decode cX2_init 34 = .ok (.bipush 121, 2) := by decide +kernel
theorem dX2_init_36 : decode cX2_init 36 = .ok (.newarray .int, 2) := by decide +kernel
theorem dX2_init_38 : decode cX2_init 38 = .ok (.putfield 26, 3) := by decide +kernel
theorem dX2_init_41 : decode cX2_init 41 = .ok (.aload_n 0, 1) := by decide +kernel
theorem dX2_init_42 : decode cX2_init 42 = .ok (.iconst 0, 1) := by decide +kernel
theorem dX2_init_43 : decode cX2_init 43 = .ok (.putfield 29, 3) := by decide +kernel
theorem dX2_init_46 : decode cX2_init 46 = .ok (.aload_n 0, 1) := by decide +kernel
theorem dX2_init_47 : decode cX2_init 47 = .ok (.iconst 0, 1) := by decide +kernel
theorem dX2_init_48 : decode cX2_init 48 = .ok (.putfield 32, 3) := by decide +kernel
theorem dX2_init_51 : decode cX2_init 51 = .ok (.return_, 1) := by decide +kernel
theorem dX2_append_0 : decode cX2_append 0 = .ok (.aload_n 0, 1) := by decide +kernel
theorem dX2_append_1 : decode cX2_append 1 = .ok (.getfield 9, 3) := by decide +kernel
theorem dX2_append_4 : decode cX2_append 4 = .ok (.aload_n 0, 1) := by decide +kernel
theorem dX2_append_5 : decode cX2_append 5 = .ok (.getfield 15, 3) := by decide +kernel
theorem dX2_append_8 : decode cX2_append 8 = .ok (.iload_n 1, 1) := by decide +kernel
theorem dX2_append_9 : decode cX2_append 9 = .ok (.bastore, 1) := by decide +kernel
theorem dX2_append_10 : decode cX2_append 10 = .ok (.aload_n 0, 1) := by decide +kernel
theorem dX2_append_11 : decode cX2_append 11 = .ok (.dup, 1) := by decide +kernel
theorem dX2_append_12 : decode cX2_append 12 = .ok (.getfield 15, 3) := by decide +kernel
theorem dX2_append_15 : decode cX2_append 15 = .ok (.iconst 1, 1) := by decide +kernel
theorem dX2_append_16 : decode cX2_append 16 = .ok (.iadd, 1) := by decide +kernel
theorem dX2_append_17 : decode cX2_append 17 = .ok (.putfield 15, 3) := by decide +kernel
theorem dX2_append_20 : decode cX2_append 20 = .ok (.return_, 1) := by decide +kernel
set_option maxRecDepth 20000 in
theorem ggX2_tell_X2_cutTokens : GoodIn wsX2_tell wsX2_cutTokens := goodIn_r _ [8, 9, 10, 2, 3, 11, 12, 13, 7, 14, 15, 16, 17, 18, 19, 20, 21, 22, 23, 24, 25, 26, 27, 28, 29, 30, 31, 32, 33, 34, 35, 36, 37, 38, 39, 40, 41, 42, 43, 44, 45, 46, 47, 48, 49, 50, 51, 52, 53, 54, 55, 56, 57, 58, 59, 60, 61, 62, 63, 64, 65, 66, 67, 68, 69, 70, 71, 72, 73, 74, 75, 76, 77, 78, 79, 80, 81, 82, 83, 84, 85, 86, 87, 88, 89, 129, 130, 131, 132, 133, 134, 135] (by decide +kernel) (by decide +kernel)
set_option maxRecDepth 20000 in
theorem gX2_tell_X2_cutTokens : GoodIn wsX2_tell (wsV RX2 35 RX2 yX2_cutTokens wsX2_cutTokens) := goodIn_app (goodIn_of _ (by decide +kernel)) ggX2_tell_X2_cutTokens
set_option maxRecDepth 20000 in
theorem ggX2_tell_X2_tellItem : GoodIn wsX2_tell wsX2_tellItem := goodIn_r _ [93, 2, 1, 15, 94, 95, 96, 97, 98, 99, 100, 7, 101, 102, 103, 104, 105, 106, 107, 108, 109, 110, 111, 112, 113, 114, 115, 116, 117, 118, 119, 120, 121, 122, 123, 124, 125, 126, 127, 128, 129, 130, 131, 132, 133, 134, 135, 136, 137, 138, 139, 140, 141, 142, 143, 144, 145, 146, 147, 148] (by decide +kernel) (by decide +kernel)
set_option maxRecDepth 20000 in
theorem gX2_tell_X2_tellItem : GoodIn wsX2_tell (wsV RX2 38 RX2 yX2_tellItem wsX2_tellItem) := goodIn_app (goodIn_of _ (by decide +kernel)) ggX2_tell_X2_tellItem
theorem dX2_tell_0 : decode cX2_tell 0 = .ok (.aload_n 0, 1) := by decide +kernel
theorem dX2_tell_1 : decode cX2_tell 1 = .ok (.invokevirtual 35, 3) := by decide +kernel
theorem dX2_tell_4 : decode cX2_tell 4 = .ok (.aload_n 0, 1) := by decide +kernel
theorem dX2_tell_5 : decode cX2_tell 5 = .ok (.iconst 0, 1) := by decide +kernel
theorem dX2_tell_6 : decode cX2_tell 6 = .ok (.putfield 29, 3) := by decide +kernel
theorem dX2_tell_9 : decode cX2_tell 9 = .ok (.iconst 1, 1) := by decide +kernel
theorem dX2_tell_10 : decode cX2_tell 10 = .ok (.istore_n 2, 1) := by decide +kernel
theorem dX2_tell_11 : decode cX2_tell 11 = .ok (.iload_n 2, 1) := by decide +kernel
theorem dX2_tell_12 : decode cX2_tell 12 = .ok (.bipush 120, 2) := by decide +kernel
theorem dX2_tell_14 : decode cX2_tell 14 = .ok (.if_icmp .gt 57, 3) := by decide +kernel
theorem dX2_tell_17 : decode cX2_tell 17 = .ok (.aload_n 0, 1) := by decide +kernel
theorem dX2_tell_18 : decode cX2_tell 18 = .ok (.aload_n 1, 1) := by decide +kernel
theorem dX2_tell_19 : decode cX2_tell 19 = .ok (.invokevirtual 38, 3) := by decide +kernel
theorem dX2_tell_22 : decode cX2_tell 22 = .ok (.ifCond .eq 49, 3) := by decide +kernel
theorem dX2_tell_25 : decode cX2_tell 25 = .ok (.aload_n 0, 1) := by decide +kernel
theorem dX2_tell_26 : decode cX2_tell 26 = .ok (.getfield 19, 3) := by decide +kernel
theorem dX2_tell_29 : decode cX2_tell 29 = .ok (.aload_n 0, 1) := by decide +kernel
theorem dX2_tell_30 : decode cX2_tell 30 = .ok (.getfield 29, 3) := by decide +kernel
theorem dX2_tell_33 : decode cX2_tell 33 = .ok (.iaload, 1) := by decide +kernel
theorem dX2_tell_34 : decode cX2_tell 34 = .ok (.ifCond .ne 5, 3) := by decide +kernel
theorem dX2_tell_37 : decode cX2_tell 37 = .ok (.iload_n 2, 1) := by decide +kernel
theorem dX2_tell_38 : decode cX2_tell 38 = .ok (.ireturn, 1) := by decide +kernel
theorem dX2_tell_39 : decode cX2_tell 39 = .ok (.aload_n 0, 1) := by decide +kernel
theorem dX2_tell_40 : decode cX2_tell 40 = .ok (.getfield 19, 3) := by decide +kernel
theorem dX2_tell_43 : decode cX2_tell 43 = .ok (.aload_n 0, 1) := by decide +kernel
theorem dX2_tell_44 : decode cX2_tell 44 = .ok (.getfield 29, 3) := by decide +kernel
theorem dX2_tell_47 : decode cX2_tell 47 = .ok (.iaload, 1) := by decide +kernel
theorem dX2_tell_48 : decode cX2_tell 48 = .ok (.iconst 3, 1) := by decide +kernel
theorem dX2_tell_49 : decode cX2_tell 49 = .ok (.if_icmp .eq 6, 3) := by decide +kernel
theorem dX2_tell_52 : decode cX2_tell 52 = .ok (.goto 19, 3) := by decide +kernel
theorem dX2_tell_55 : decode cX2_tell 55 = .ok (.aload_n 0, 1) := by decide +kernel
theorem dX2_tell_56 : decode cX2_tell 56 = .ok (.dup, 1) := by decide +kernel
theorem dX2_tell_57 : decode cX2_tell 57 = .ok (.getfield 29, 3) := by decide +kernel
theorem dX2_tell_60 : decode cX2_tell 60 = .ok (.iconst 1, 1) := by decide +kernel
theorem dX2_tell_61 : decode cX2_tell 61 = .ok (.iadd, 1) := by decide +kernel
theorem dX2_tell_62 : decode cX2_tell 62 = .ok (.putfield 29, 3) := by decide +kernel
theorem dX2_tell_65 : decode cX2_tell 65 = .ok (.iinc 2 1, 3) := by decide +kernel
theorem dX2_tell_68 : decode cX2_tell 68 = .ok (.goto (-57), 3) := by decide +kernel
theorem dX2_tell_71 : decode cX2_tell 71 = .ok (.iconst (-1), 1) := by decide +kernel
theorem dX2_tell_72 : decode cX2_tell 72 = .ok (.aload_n 0, 1) := by decide +kernel
theorem dX2_tell_73 : decode cX2_tell 73 = .ok (.getfield 23, 3) := by decide +kernel
theorem dX2_tell_76 : decode cX2_tell 76 = .ok (.aload_n 0, 1) := by decide +kernel
theorem dX2_tell_77 : decode cX2_tell 77 = .ok (.getfield 29, 3) := by decide +kernel
theorem dX2_tell_80 : decode cX2_tell 80 = .ok (.iaload, 1) := by decide +kernel
theorem dX2_tell_81 : decode cX2_tell 81 = .ok (.isub, 1) := by decide +kernel
theorem dX2_tell_82 : decode cX2_tell 82 = .ok (.ireturn, 1) := by decide +kernel
set_option maxRecDepth 20000 in
theorem ggX2_tellItem_X2_tellThing : GoodIn wsX2_tellItem wsX2_tellThing := goodIn_r _ [12, 13, 4, 14, 15, 16, 17, 18, 19, 11, 20, 2, 1, 3, 21, 22, 23, 24, 25, 26, 27, 28, 29, 30, 31, 32, 33, 34, 35, 36, 37, 38, 39, 47, 48, 49, 50, 51, 52, 53, 54, 55, 56, 57, 58, 59, 40, 41, 42, 43, 44, 45, 46] (by decide +kernel) (by decide +kernel)
set_option maxRecDepth 20000 in
theorem gX2_tellItem_X2_tellThing : GoodIn wsX2_tellItem (wsV RX2 42 RX2 yX2_tellThing wsX2_tellThing) := goodIn_app (goodIn_of _ (by decide +kernel)) ggX2_tellItem_X2_tellThing
set_option maxRecDepth 20000 in
theorem ggX2_tellItem_X2_numberBehind : GoodIn wsX2_tellItem wsX2_numberBehind := goodIn_r _ [20, 2, 1, 3, 4, 21, 22, 23, 40, 41, 42, 43, 44, 45, 46] (by decide +kernel) (by decide +kernel)
set_option maxRecDepth 20000 in
theorem gX2_tellItem_X2_numberBehind : GoodIn wsX2_tellItem (wsV RX2 46 RX2 yX2_numberBehind wsX2_numberBehind) := goodIn_app (goodIn_of _ (by decide +kernel)) ggX2_tellItem_X2_numberBehind
theorem dX2_tellItem_0 : decode cX2_tellItem 0 = .ok (.aload_n 0, 1) := by decide +kernel
theorem dX2_tellItem_1 : decode cX2_tellItem 1 = .ok (.getfield 19, 3) := by decide +kernel
theorem dX2_tellItem_4 : decode cX2_tellItem 4 = .ok (.aload_n 0, 1) := by decide +kernel
theorem dX2_tellItem_5 : decode cX2_tellItem 5 = .ok (.getfield 29, 3) := by decide +kernel
theorem dX2_tellItem_8 : decode cX2_tellItem 8 = .ok (.iaload, 1) := by decide +kernel
theorem dX2_tellItem_9 : decode cX2_tellItem 9 = .ok (.iconst 1, 1) := by decide +kernel
theorem dX2_tellItem_10 : decode cX2_tellItem 10 = .ok (.if_icmp .eq 5, 3) := by decide +kernel
theorem dX2_tellItem_13 : decode cX2_tellItem 13 = .ok (.iconst 0, 1) := by decide +kernel
theorem dX2_tellItem_14 : decode cX2_tellItem 14 = .ok (.ireturn, 1) := by decide +kernel
theorem dX2_tellItem_15 : decode cX2_tellItem 15 = .ok (.aload_n 0, 1) := by decide +kernel
theorem dX2_tellItem_16 : decode cX2_tellItem 16 = .ok (.getfield 26, 3) := by decide +kernel
theorem dX2_tellItem_19 : decode cX2_tellItem 19 = .ok (.aload_n 0, 1) := by decide +kernel
theorem dX2_tellItem_20 : decode cX2_tellItem 20 = .ok (.getfield 29, 3) := by decide +kernel
theorem dX2_tellItem_23 : decode cX2_tellItem 23 = .ok (.iaload, 1) := by decide +kernel
theorem dX2_tellItem_24 : decode cX2_tellItem 24 = .ok (.istore_n 2, 1) := by decide +kernel
theorem dX2_tellItem_25 : decode cX2_tellItem 25 = .ok (.iload_n 2, 1) := by decide +kernel
theorem dX2_tellItem_26 : decode cX2_tellItem 26 = .ok (.iconst 5, 1) := by decide +kernel
theorem dX2_tellItem_27 : decode cX2_tellItem 27 = .ok (.if_icmp .gt 10, 3) := by decide +kernel
theorem dX2_tellItem_30 : decode cX2_tellItem 30 = .ok (.aload_n 0, 1) := by decide +kernel
theorem dX2_tellItem_31 : decode cX2_tellItem 31 = .ok (.aload_n 1, 1) := by decide +kernel
theorem dX2_tellItem_32 : decode cX2_tellItem 32 = .ok (.iload_n 2, 1) := by decide +kernel
theorem dX2_tellItem_33 : decode cX2_tellItem 33 = .ok (.invokevirtual 42, 3) := by decide +kernel
theorem dX2_tellItem_36 : decode cX2_tellItem 36 = .ok (.ireturn, 1) := by decide +kernel
theorem dX2_tellItem_37 : decode cX2_tellItem 37 = .ok (.iload_n 2, 1) := by decide +kernel
theorem dX2_tellItem_38 : decode cX2_tellItem 38 = .ok (.bipush 6, 2) := by decide +kernel
theorem dX2_tellItem_40 : decode cX2_tellItem 40 = .ok (.if_icmp .ne 23, 3) := by decide +kernel
theorem dX2_tellItem_43 : decode cX2_tellItem 43 = .ok (.aload_n 0, 1) := by decide +kernel
theorem dX2_tellItem_44 : decode cX2_tellItem 44 = .ok (.iconst 0, 1) := by decide +kernel
theorem dX2_tellItem_45 : decode cX2_tellItem 45 = .ok (.bipush 59, 2) := by decide +kernel
theorem dX2_tellItem_47 : decode cX2_tellItem 47 = .ok (.invokevirtual 46, 3) := by decide +kernel
theorem dX2_tellItem_50 : decode cX2_tellItem 50 = .ok (.ifCond .eq 13, 3) := by decide +kernel
theorem dX2_tellItem_53 : decode cX2_tellItem 53 = .ok (.aload_n 1, 1) := by decide +kernel
theorem dX2_tellItem_54 : decode cX2_tellItem 54 = .ok (.aload_n 0, 1) := by decide +kernel
theorem dX2_tellItem_55 : decode cX2_tellItem 55 = .ok (.getfield 32, 3) := by decide +kernel
theorem dX2_tellItem_58 : decode cX2_tellItem 58 = .ok (.putfield 50, 3) := by decide +kernel
theorem dX2_tellItem_61 : decode cX2_tellItem 61 = .ok (.iconst 1, 1) := by decide +kernel
theorem dX2_tellItem_62 : decode cX2_tellItem 62 = .ok (.ireturn, 1) := by decide +kernel
theorem dX2_tellItem_63 : decode cX2_tellItem 63 = .ok (.iload_n 2, 1) := by decide +kernel
theorem dX2_tellItem_64 : decode cX2_tellItem 64 = .ok (.bipush 7, 2) := by decide +kernel
theorem dX2_tellItem_66 : decode cX2_tellItem 66 = .ok (.if_icmp .ne 23, 3) := by decide +kernel
theorem dX2_tellItem_69 : decode cX2_tellItem 69 = .ok (.aload_n 0, 1) := by decide +kernel
theorem dX2_tellItem_70 : decode cX2_tellItem 70 = .ok (.iconst 1, 1) := by decide +kernel
theorem dX2_tellItem_71 : decode cX2_tellItem 71 = .ok (.bipush 10, 2) := by decide +kernel
theorem dX2_tellItem_73 : decode cX2_tellItem 73 = .ok (.invokevirtual 46, 3) := by decide +kernel
theorem dX2_tellItem_76 : decode cX2_tellItem 76 = .ok (.ifCond .eq 13, 3) := by decide +kernel
theorem dX2_tellItem_79 : decode cX2_tellItem 79 = .ok (.aload_n 1, 1) := by decide +kernel
theorem dX2_tellItem_80 : decode cX2_tellItem 80 = .ok (.aload_n 0, 1) := by decide +kernel
theorem dX2_tellItem_81 : decode cX2_tellItem 81 = .ok (.getfield 32, 3) := by decide +kernel
theorem dX2_tellItem_84 : decode cX2_tellItem 84 = .ok (.putfield 55, 3) := by decide +kernel
theorem dX2_tellItem_87 : decode cX2_tellItem 87 = .ok (.iconst 1, 1) := by decide +kernel
theorem dX2_tellItem_88 : decode cX2_tellItem 88 = .ok (.ireturn, 1) := by decide +kernel
theorem dX2_tellItem_89 : decode cX2_tellItem 89 = .ok (.iload_n 2, 1) := by decide +kernel
theorem dX2_tellItem_90 : decode cX2_tellItem 90 = .ok (.bipush 8, 2) := by decide +kernel
theorem dX2_tellItem_92 : decode cX2_tellItem 92 = .ok (.if_icmp .ne 23, 3) := by decide +kernel
theorem dX2_tellItem_95 : decode cX2_tellItem 95 = .ok (.aload_n 0, 1) := by decide +kernel
theorem dX2_tellItem_96 : decode cX2_tellItem 96 = .ok (.iconst 1, 1) := by decide +kernel
theorem dX2_tellItem_97 : decode cX2_tellItem 97 = .ok (.bipush 40, 2) := by decide +kernel
theorem dX2_tellItem_99 : decode cX2_tellItem 99 = .ok (.invokevirtual 46, 3) := by decide +kernel
theorem dX2_tellItem_102 : decode cX2_tellItem 102 = .ok (.ifCond .eq 13, 3) := by decide +kernel
theorem dX2_tellItem_105 : decode cX2_tellItem 105 = .ok (.aload_n 1, 1) := by decide +kernel
theorem dX2_tellItem_106 : decode cX2_tellItem 106 = .ok (.aload_n 0, 1) := by decide +kernel
theorem dX2_tellItem_107 : decode cX2_tellItem 107 = .ok (.getfield 32, 3) := by decide +kernel
theorem dX2_tellItem_110 : decode cX2_tellItem 110 = .ok (.putfield 58, 3) := by decide +kernel
theorem dX2_tellItem_113 : decode cX2_tellItem 113 = .ok (.iconst 1, 1) := by decide +kernel
theorem dX2_tellItem_114 : decode cX2_tellItem 114 = .ok (.ireturn, 1) := by decide +kernel
theorem dX2_tellItem_115 : decode cX2_tellItem 115 = .ok (.iconst 0, 1) := by decide +kernel
theorem dX2_tellItem_116 : decode cX2_tellItem 116 = .ok (.ireturn, 1) := by decide +kernel
set_option maxRecDepth 20000 in
theorem ggX2_tellThing_X2_numberBehind : GoodIn wsX2_tellThing wsX2_numberBehind := goodIn_r _ [10, 11, 12, 13, 2, 14, 15, 16, 46, 47, 48, 49, 50, 51, 52] (by decide +kernel) (by decide +kernel)
set_option maxRecDepth 20000 in
theorem gX2_tellThing_X2_numberBehind : GoodIn wsX2_tellThing (wsV RX2 46 RX2 yX2_numberBehind wsX2_numberBehind) := goodIn_app (goodIn_of _ (by decide +kernel)) ggX2_tellThing_X2_numberBehind
set_option maxRecDepth 20000 in
theorem ggX2_tellThing_X0_add : GoodIn wsX2_tellThing wsX0_add := goodIn_r _ [21, 22, 23, 24, 25, 26, 27, 28, 33, 34, 35, 36, 37, 38, 39, 40, 41, 42, 43, 44, 45] (by decide +kernel) (by decide +kernel)
set_option maxRecDepth 20000 in
theorem gX2_tellThing_X0_add : GoodIn wsX2_tellThing (wsV RX2 62 RX0 yX0_add wsX0_add) := goodIn_app (goodIn_of _ (by decide +kernel)) ggX2_tellThing_X0_add
set_option maxRecDepth 20000 in
theorem ggX2_tellThing_X2_tellPart : GoodIn wsX2_tellThing wsX2_tellPart := goodIn_r _ [32, 12, 11, 13, 2, 6, 7, 8, 9, 10, 14, 15, 16, 46, 47, 48, 49, 50, 51, 52] (by decide +kernel) (by decide +kernel)
set_option maxRecDepth 20000 in
theorem gX2_tellThing_X2_tellPart : GoodIn wsX2_tellThing (wsV RX2 69 RX2 yX2_tellPart wsX2_tellPart) := goodIn_app (goodIn_of _ (by decide +kernel)) ggX2_tellThing_X2_tellPart
theorem dX2_tellThing_0 : decode cX2_tellThing 0 = .ok (.aload_n 1, 1) := by decide +kernel
theorem dX2_tellThing_1 : decode cX2_tellThing 1 = .ok (.getfield 61, 3) := by decide +kernel
theorem dX2_tellThing_4 : decode cX2_tellThing 4 = .ok (.bipush 8, 2) := by decide +kernel
theorem dX2_tellThing_6 : decode cX2_tellThing 6 = .ok (.if_icmp .ge 13, 3) := by decide +kernel
theorem dX2_tellThing_9 : decode cX2_tellThing 9 = .ok (.aload_n 0, 1) := by decide +kernel
theorem dX2_tellThing_10 : decode cX2_tellThing 10 = .ok (.iconst 0, 1) := by decide +kernel
theorem dX2_tellThing_11 : decode cX2_tellThing 11 = .ok (.bipush 59, 2) := by decide +kernel
theorem dX2_tellThing_13 : decode cX2_tellThing 13 = .ok (.invokevirtual 46, 3) := by decide +kernel
theorem dX2_tellThing_16 : decode cX2_tellThing 16 = .ok (.ifCond .ne 5, 3) := by decide +kernel
theorem dX2_tellThing_19 : decode cX2_tellThing 19 = .ok (.iconst 0, 1) := by decide +kernel
theorem dX2_tellThing_20 : decode cX2_tellThing 20 = .ok (.ireturn, 1) := by decide +kernel
theorem dX2_tellThing_21 : decode cX2_tellThing 21 = .ok (.aload_n 1, 1) := by decide +kernel
theorem dX2_tellThing_22 : decode cX2_tellThing 22 = .ok (.iload_n 2, 1) := by decide +kernel
theorem dX2_tellThing_23 : decode cX2_tellThing 23 = .ok (.aload_n 0, 1) := by decide +kernel
theorem dX2_tellThing_24 : decode cX2_tellThing 24 = .ok (.getfield 32, 3) := by decide +kernel
theorem dX2_tellThing_27 : decode cX2_tellThing 27 = .ok (.invokevirtual 62, 3) := by decide +kernel
theorem dX2_tellThing_30 : decode cX2_tellThing 30 = .ok (.istore_n 3, 1) := by decide +kernel
theorem dX2_tellThing_31 : decode cX2_tellThing 31 = .ok (.aload_n 0, 1) := by decide +kernel
theorem dX2_tellThing_32 : decode cX2_tellThing 32 = .ok (.bipush 9, 2) := by decide +kernel
theorem dX2_tellThing_34 : decode cX2_tellThing 34 = .ok (.bipush 9, 2) := by decide +kernel
theorem dX2_tellThing_36 : decode cX2_tellThing 36 = .ok (.aload_n 1, 1) := by decide +kernel
theorem dX2_tellThing_37 : decode cX2_tellThing 37 = .ok (.getfield 66, 3) := by decide +kernel
theorem dX2_tellThing_40 : decode cX2_tellThing 40 = .ok (.iload_n 3, 1) := by decide +kernel
theorem dX2_tellThing_41 : decode cX2_tellThing 41 = .ok (.invokevirtual 69, 3) := by decide +kernel
theorem dX2_tellThing_44 : decode cX2_tellThing 44 = .ok (.ifCond .eq 39, 3) := by decide +kernel
theorem dX2_tellThing_47 : decode cX2_tellThing 47 = .ok (.aload_n 0, 1) := by decide +kernel
theorem dX2_tellThing_48 : decode cX2_tellThing 48 = .ok (.bipush 10, 2) := by decide +kernel
theorem dX2_tellThing_50 : decode cX2_tellThing 50 = .ok (.bipush 99, 2) := by decide +kernel
theorem dX2_tellThing_52 : decode cX2_tellThing 52 = .ok (.aload_n 1, 1) := by decide +kernel
theorem dX2_tellThing_53 : decode cX2_tellThing 53 = .ok (.getfield 73, 3) := by decide +kernel
theorem dX2_tellThing_56 : decode cX2_tellThing 56 = .ok (.iload_n 3, 1) := by decide +kernel
theorem dX2_tellThing_57 : decode cX2_tellThing 57 = .ok (.invokevirtual 69, 3) := by decide +kernel
theorem dX2_tellThing_60 : decode cX2_tellThing 60 = .ok (.ifCond .eq 23, 3) := by decide +kernel
theorem dX2_tellThing_63 : decode cX2_tellThing 63 = .ok (.aload_n 0, 1) := by decide +kernel
theorem dX2_tellThing_64 : decode cX2_tellThing 64 = .ok (.bipush 11, 2) := by decide +kernel
theorem dX2_tellThing_66 : decode cX2_tellThing 66 = .ok (.bipush 59, 2) := by decide +kernel
theorem dX2_tellThing_68 : decode cX2_tellThing 68 = .ok (.aload_n 1, 1) := by decide +kernel
theorem dX2_tellThing_69 : decode cX2_tellThing 69 = .ok (.getfield 76, 3) := by decide +kernel
theorem dX2_tellThing_72 : decode cX2_tellThing 72 = .ok (.iload_n 3, 1) := by decide +kernel
theorem dX2_tellThing_73 : decode cX2_tellThing 73 = .ok (.invokevirtual 69, 3) := by decide +kernel
theorem dX2_tellThing_76 : decode cX2_tellThing 76 = .ok (.ifCond .eq 7, 3) := by decide +kernel
theorem dX2_tellThing_79 : decode cX2_tellThing 79 = .ok (.iconst 1, 1) := by decide +kernel
theorem dX2_tellThing_80 : decode cX2_tellThing 80 = .ok (.goto 4, 3) := by decide +kernel
theorem dX2_tellThing_83 : decode cX2_tellThing 83 = .ok (.iconst 0, 1) := by decide +kernel
theorem dX2_tellThing_84 : decode cX2_tellThing 84 = .ok (.ireturn, 1) := by decide +kernel
set_option maxRecDepth 20000 in
theorem ggX2_tellPart_X2_numberBehind : GoodIn wsX2_tellPart wsX2_numberBehind := goodIn_r _ [9, 2, 1, 3, 4, 10, 11, 12, 13, 14, 15, 16, 17, 18, 19] (by decide +kernel) (by decide +kernel)
set_option maxRecDepth 20000 in
theorem gX2_tellPart_X2_numberBehind : GoodIn wsX2_tellPart (wsV RX2 46 RX2 yX2_numberBehind wsX2_numberBehind) := goodIn_app (goodIn_of _ (by decide +kernel)) ggX2_tellPart_X2_numberBehind
theorem dX2_tellPart_0 : decode cX2_tellPart 0 = .ok (.aload_n 0, 1) := by decide +kernel
theorem dX2_tellPart_1 : decode cX2_tellPart 1 = .ok (.getfield 19, 3) := by decide +kernel
theorem dX2_tellPart_4 : decode cX2_tellPart 4 = .ok (.aload_n 0, 1) := by decide +kernel
theorem dX2_tellPart_5 : decode cX2_tellPart 5 = .ok (.getfield 29, 3) := by decide +kernel
theorem dX2_tellPart_8 : decode cX2_tellPart 8 = .ok (.iaload, 1) := by decide +kernel
theorem dX2_tellPart_9 : decode cX2_tellPart 9 = .ok (.iconst 1, 1) := by decide +kernel
theorem dX2_tellPart_10 : decode cX2_tellPart 10 = .ok (.if_icmp .ne 16, 3) := by decide +kernel
theorem dX2_tellPart_13 : decode cX2_tellPart 13 = .ok (.aload_n 0, 1) := by decide +kernel
theorem dX2_tellPart_14 : decode cX2_tellPart 14 = .ok (.getfield 26, 3) := by decide +kernel
theorem dX2_tellPart_17 : decode cX2_tellPart 17 = .ok (.aload_n 0, 1) := by decide +kernel
theorem dX2_tellPart_18 : decode cX2_tellPart 18 = .ok (.getfield 29, 3) := by decide +kernel
theorem dX2_tellPart_21 : decode cX2_tellPart 21 = .ok (.iaload, 1) := by decide +kernel
theorem dX2_tellPart_22 : decode cX2_tellPart 22 = .ok (.iload_n 1, 1) := by decide +kernel
theorem dX2_tellPart_23 : decode cX2_tellPart 23 = .ok (.if_icmp .eq 5, 3) := by decide +kernel
theorem dX2_tellPart_26 : decode cX2_tellPart 26 = .ok (.iconst 1, 1) := by decide +kernel
theorem dX2_tellPart_27 : decode cX2_tellPart 27 = .ok (.ireturn, 1) := by decide +kernel
theorem dX2_tellPart_28 : decode cX2_tellPart 28 = .ok (.aload_n 0, 1) := by decide +kernel
theorem dX2_tellPart_29 : decode cX2_tellPart 29 = .ok (.iconst 0, 1) := by decide +kernel
theorem dX2_tellPart_30 : decode cX2_tellPart 30 = .ok (.iload_n 2, 1) := by decide +kernel
theorem dX2_tellPart_31 : decode cX2_tellPart 31 = .ok (.invokevirtual 46, 3) := by decide +kernel
theorem dX2_tellPart_34 : decode cX2_tellPart 34 = .ok (.ifCond .ne 5, 3) := by decide +kernel
theorem dX2_tellPart_37 : decode cX2_tellPart 37 = .ok (.iconst 0, 1) := by decide +kernel
theorem dX2_tellPart_38 : decode cX2_tellPart 38 = .ok (.ireturn, 1) := by decide +kernel
theorem dX2_tellPart_39 : decode cX2_tellPart 39 = .ok (.aload_n 3, 1) := by decide +kernel
theorem dX2_tellPart_40 : decode cX2_tellPart 40 = .ok (.iload 4, 2) := by decide +kernel
theorem dX2_tellPart_42 : decode cX2_tellPart 42 = .ok (.aload_n 0, 1) := by decide +kernel
theorem dX2_tellPart_43 : decode cX2_tellPart 43 = .ok (.getfield 32, 3) := by decide +kernel
theorem dX2_tellPart_46 : decode cX2_tellPart 46 = .ok (.iastore, 1) := by decide +kernel
theorem dX2_tellPart_47 : decode cX2_tellPart 47 = .ok (.iconst 1, 1) := by decide +kernel
theorem dX2_tellPart_48 : decode cX2_tellPart 48 = .ok (.ireturn, 1) := by decide +kernel
set_option maxRecDepth 20000 in
theorem ggX2_numberBehind_X3_within : GoodIn wsX2_numberBehind wsX3_within := goodIn_r _ [7] (by decide +kernel) (by decide +kernel)
set_option maxRecDepth 20000 in
theorem gX2_numberBehind_X3_within_n79 : GoodIn wsX2_numberBehind (wsX3_within) := ggX2_numberBehind_X3_within
theorem dX2_numberBehind_0 : decode cX2_numberBehind 0 = .ok (.aload_n 0, 1) := by decide +kernel
theorem dX2_numberBehind_1 : decode cX2_numberBehind 1 = .ok (.dup, 1) := by decide +kernel
theorem dX2_numberBehind_2 : decode cX2_numberBehind 2 = .ok (.getfield 29, 3) := by decide +kernel
theorem dX2_numberBehind_5 : decode cX2_numberBehind 5 = .ok (.iconst 1, 1) := by decide +kernel
theorem dX2_numberBehind_6 : decode cX2_numberBehind 6 = .ok (.iadd, 1) := by decide +kernel
theorem dX2_numberBehind_7 : decode cX2_numberBehind 7 = .ok (.putfield 29, 3) := by decide +kernel
theorem dX2_numberBehind_10 : decode cX2_numberBehind 10 = .ok (.aload_n 0, 1) := by decide +kernel
theorem dX2_numberBehind_11 : decode cX2_numberBehind 11 = .ok (.getfield 19, 3) := by decide +kernel
theorem dX2_numberBehind_14 : decode cX2_numberBehind 14 = .ok (.aload_n 0, 1) := by decide +kernel
theorem dX2_numberBehind_15 : decode cX2_numberBehind 15 = .ok (.getfield 29, 3) := by decide +kernel
theorem dX2_numberBehind_18 : decode cX2_numberBehind 18 = .ok (.iaload, 1) := by decide +kernel
theorem dX2_numberBehind_19 : decode cX2_numberBehind 19 = .ok (.iconst 2, 1) := by decide +kernel
theorem dX2_numberBehind_20 : decode cX2_numberBehind 20 = .ok (.if_icmp .ne 20, 3) := by decide +kernel
theorem dX2_numberBehind_23 : decode cX2_numberBehind 23 = .ok (.aload_n 0, 1) := by decide +kernel
theorem dX2_numberBehind_24 : decode cX2_numberBehind 24 = .ok (.getfield 26, 3) := by decide +kernel
theorem dX2_numberBehind_27 : decode cX2_numberBehind 27 = .ok (.aload_n 0, 1) := by decide +kernel
theorem dX2_numberBehind_28 : decode cX2_numberBehind 28 = .ok (.getfield 29, 3) := by decide +kernel
theorem dX2_numberBehind_31 : decode cX2_numberBehind 31 = .ok (.iaload, 1) := by decide +kernel
theorem dX2_numberBehind_32 : decode cX2_numberBehind 32 = .ok (.iload_n 1, 1) := by decide +kernel
theorem dX2_numberBehind_33 : decode cX2_numberBehind 33 = .ok (.iload_n 2, 1) := by decide +kernel
theorem dX2_numberBehind_34 : decode cX2_numberBehind 34 = .ok (.invokestatic 79, 3) := by decide +kernel
theorem dX2_numberBehind_37 : decode cX2_numberBehind 37 = .ok (.ifCond .ne 5, 3) := by decide +kernel
theorem dX2_numberBehind_40 : decode cX2_numberBehind 40 = .ok (.iconst 0, 1) := by decide +kernel
theorem dX2_numberBehind_41 : decode cX2_numberBehind 41 = .ok (.ireturn, 1) := by decide +kernel
theorem dX2_numberBehind_42 : decode cX2_numberBehind 42 = .ok (.aload_n 0, 1) := by decide +kernel
theorem dX2_numberBehind_43 : decode cX2_numberBehind 43 = .ok (.aload_n 0, 1) := by decide +kernel
theorem dX2_numberBehind_44 : decode cX2_numberBehind 44 = .ok (.getfield 26, 3) := by decide +kernel
theorem dX2_numberBehind_47 : decode cX2_numberBehind 47 = .ok (.aload_n 0, 1) := by decide +kernel
theorem dX2_numberBehind_48 : decode cX2_numberBehind 48 = .ok (.getfield 29, 3) := by decide +kernel
theorem dX2_numberBehind_51 : decode cX2_numberBehind 51 = .ok (.iaload, 1) := by decide +kernel
theorem dX2_numberBehind_52 : decode cX2_numberBehind 52 = .ok (.putfield 32, 3) := by decide +kernel
theorem dX2_numberBehind_55 : decode cX2_numberBehind 55 = .ok (.aload_n 0, 1) := by decide +kernel
theorem dX2_numberBehind_56 : decode cX2_numberBehind 56 = .ok (.dup, 1) := by decide +kernel
theorem dX2_numberBehind_57 : decode cX2_numberBehind 57 = .ok (.getfield 29, 3) := by decide +kernel
theorem dX2_numberBehind_60 : decode cX2_numberBehind 60 = .ok (.iconst 1, 1) := by decide +kernel
theorem dX2_numberBehind_61 : decode cX2_numberBehind 61 = .ok (.iadd, 1) := by decide +kernel
theorem dX2_numberBehind_62 : decode cX2_numberBehind 62 = .ok (.putfield 29, 3) := by decide +kernel
theorem dX2_numberBehind_65 : decode cX2_numberBehind 65 = .ok (.iconst 1, 1) := by decide +kernel
theorem dX2_numberBehind_66 : decode cX2_numberBehind 66 = .ok (.ireturn, 1) := by decide +kernel
set_option maxRecDepth 20000 in
theorem ggX2_cutTokens_X2_cutToken : GoodIn wsX2_cutTokens wsX2_cutToken := goodIn_r _ [9, 4, 2, 1, 3, 10, 11, 12, 8, 13, 14, 15, 16, 17, 18, 19, 20, 21, 22, 23, 24, 25, 26, 27, 28, 29, 30, 31, 32, 33, 34, 35, 36, 37, 38, 39, 40, 41, 42, 43, 44, 45, 46, 47, 48, 49, 50, 51, 52, 53, 54, 55, 56, 57, 58, 59, 60, 61, 62, 63, 64, 65, 66, 67, 68, 69, 70, 71, 72, 73, 74, 75, 76, 77, 78, 79, 80, 81, 82, 83, 84, 85, 86, 87, 88, 89, 90, 91] (by decide +kernel) (by decide +kernel)
set_option maxRecDepth 20000 in
theorem gX2_cutTokens_X2_cutToken : GoodIn wsX2_cutTokens (wsV RX2 83 RX2 yX2_cutToken wsX2_cutToken) := goodIn_app (goodIn_of _ (by decide +kernel)) ggX2_cutTokens_X2_cutToken
theorem dX2_cutTokens_0 : decode cX2_cutTokens 0 = .ok (.iconst 0, 1) := by decide +kernel
theorem dX2_cutTokens_1 : decode cX2_cutTokens 1 = .ok (.istore_n 1, 1) := by decide +kernel
theorem dX2_cutTokens_2 : decode cX2_cutTokens 2 = .ok (.iconst 0, 1) := by decide +kernel
theorem dX2_cutTokens_3 : decode cX2_cutTokens 3 = .ok (.istore_n 2, 1) := by decide +kernel
theorem dX2_cutTokens_4 : decode cX2_cutTokens 4 = .ok (.iconst 0, 1) := by decide +kernel
theorem dX2_cutTokens_5 : decode cX2_cutTokens 5 = .ok (.istore_n 3, 1) := by decide +kernel
theorem dX2_cutTokens_6 : decode cX2_cutTokens 6 = .ok (.iload_n 3, 1) := by decide +kernel
theorem dX2_cutTokens_7 : decode cX2_cutTokens 7 = .ok (.aload_n 0, 1) := by decide +kernel
theorem dX2_cutTokens_8 : decode cX2_cutTokens 8 = .ok (.getfield 15, 3) := by decide +kernel
theorem dX2_cutTokens_11 : decode cX2_cutTokens 11 = .ok (.if_icmp .ge 35, 3) := by decide +kernel
theorem dX2_cutTokens_14 : decode cX2_cutTokens 14 = .ok (.iload_n 3, 1) := by decide +kernel
theorem dX2_cutTokens_15 : decode cX2_cutTokens 15 = .ok (.iload_n 2, 1) := by decide +kernel
theorem dX2_cutTokens_16 : decode cX2_cutTokens 16 = .ok (.if_icmp .lt 24, 3) := by decide +kernel
theorem dX2_cutTokens_19 : decode cX2_cutTokens 19 = .ok (.aload_n 0, 1) := by decide +kernel
theorem dX2_cutTokens_20 : decode cX2_cutTokens 20 = .ok (.getfield 9, 3) := by decide +kernel
theorem dX2_cutTokens_23 : decode cX2_cutTokens 23 = .ok (.iload_n 3, 1) := by decide +kernel
theorem dX2_cutTokens_24 : decode cX2_cutTokens 24 = .ok (.baload, 1) := by decide +kernel
theorem dX2_cutTokens_25 : decode cX2_cutTokens 25 = .ok (.bipush 32, 2) := by decide +kernel
theorem dX2_cutTokens_27 : decode cX2_cutTokens 27 = .ok (.if_icmp .eq 13, 3) := by decide +kernel
theorem dX2_cutTokens_30 : decode cX2_cutTokens 30 = .ok (.aload_n 0, 1) := by decide +kernel
theorem dX2_cutTokens_31 : decode cX2_cutTokens 31 = .ok (.iload_n 1, 1) := by decide +kernel
theorem dX2_cutTokens_32 : decode cX2_cutTokens 32 = .ok (.iload_n 3, 1) := by decide +kernel
theorem dX2_cutTokens_33 : decode cX2_cutTokens 33 = .ok (.invokevirtual 83, 3) := by decide +kernel
theorem dX2_cutTokens_36 : decode cX2_cutTokens 36 = .ok (.istore_n 2, 1) := by decide +kernel
theorem dX2_cutTokens_37 : decode cX2_cutTokens 37 = .ok (.iinc 1 1, 3) := by decide +kernel
theorem dX2_cutTokens_40 : decode cX2_cutTokens 40 = .ok (.iinc 3 1, 3) := by decide +kernel
theorem dX2_cutTokens_43 : decode cX2_cutTokens 43 = .ok (.goto (-37), 3) := by decide +kernel
theorem dX2_cutTokens_46 : decode cX2_cutTokens 46 = .ok (.aload_n 0, 1) := by decide +kernel
theorem dX2_cutTokens_47 : decode cX2_cutTokens 47 = .ok (.getfield 19, 3) := by decide +kernel
theorem dX2_cutTokens_50 : decode cX2_cutTokens 50 = .ok (.iload_n 1, 1) := by decide +kernel
theorem dX2_cutTokens_51 : decode cX2_cutTokens 51 = .ok (.iconst 0, 1) := by decide +kernel
theorem dX2_cutTokens_52 : decode cX2_cutTokens 52 = .ok (.iastore, 1) := by decide +kernel
theorem dX2_cutTokens_53 : decode cX2_cutTokens 53 = .ok (.aload_n 0, 1) := by decide +kernel
theorem dX2_cutTokens_54 : decode cX2_cutTokens 54 = .ok (.getfield 23, 3) := by decide +kernel
theorem dX2_cutTokens_57 : decode cX2_cutTokens 57 = .ok (.iload_n 1, 1) := by decide +kernel
theorem dX2_cutTokens_58 : decode cX2_cutTokens 58 = .ok (.aload_n 0, 1) := by decide +kernel
theorem dX2_cutTokens_59 : decode cX2_cutTokens 59 = .ok (.getfield 15, 3) := by decide +kernel
theorem dX2_cutTokens_62 : decode cX2_cutTokens 62 = .ok (.iastore, 1) := by decide +kernel
theorem dX2_cutTokens_63 : decode cX2_cutTokens 63 = .ok (.return_, 1) := by decide +kernel
set_option maxRecDepth 20000 in
theorem ggX2_cutToken_X2_isLetter : GoodIn wsX2_cutToken wsX2_isLetter := goodIn_r _ [9] (by decide +kernel) (by decide +kernel)
set_option maxRecDepth 20000 in
theorem gX2_cutToken_X2_isLetter : GoodIn wsX2_cutToken (va_wsS RX2 86 yX2_isLetter wsX2_isLetter) := goodIn_app (goodIn_of _ (by decide +kernel)) ggX2_cutToken_X2_isLetter
set_option maxRecDepth 20000 in
theorem ggX2_cutToken_X2_wordAt : GoodIn wsX2_cutToken wsX2_wordAt := goodIn_r _ [13, 14, 15, 8, 16, 17, 18, 19, 20, 2, 21, 22, 23, 24, 25, 26, 27, 28, 29, 30, 31, 32, 33, 34, 35, 36, 37, 38, 39, 40, 41, 42, 43, 44, 45, 46, 47, 48, 49, 50, 51, 52, 53, 54, 55, 56, 57, 58, 59, 60, 61, 62, 63, 64, 65, 66, 67, 68, 69, 81, 82, 83, 84, 85, 86, 87] (by decide +kernel) (by decide +kernel)
set_option maxRecDepth 20000 in
theorem gX2_cutToken_X2_wordAt : GoodIn wsX2_cutToken (wsV RX2 90 RX2 yX2_wordAt wsX2_wordAt) := goodIn_app (goodIn_of _ (by decide +kernel)) ggX2_cutToken_X2_wordAt
set_option maxRecDepth 20000 in
theorem ggX2_cutToken_X2_isDigit : GoodIn wsX2_cutToken wsX2_isDigit := goodIn_r _ [72] (by decide +kernel) (by decide +kernel)
set_option maxRecDepth 20000 in
theorem gX2_cutToken_X2_isDigit : GoodIn wsX2_cutToken (va_wsS RX2 93 yX2_isDigit wsX2_isDigit) := goodIn_app (goodIn_of _ (by decide +kernel)) ggX2_cutToken_X2_isDigit
set_option maxRecDepth 20000 in
theorem ggX2_cutToken_X2_numberAt : GoodIn wsX2_cutToken wsX2_numberAt := goodIn_r _ [76, 2, 77, 78, 79, 80, 81, 82, 83, 84, 85, 86, 87] (by decide +kernel) (by decide +kernel)
set_option maxRecDepth 20000 in
theorem gX2_cutToken_X2_numberAt : GoodIn wsX2_cutToken (wsV RX2 96 RX2 yX2_numberAt wsX2_numberAt) := goodIn_app (goodIn_of _ (by decide +kernel)) ggX2_cutToken_X2_numberAt
theorem dX2_cutToken_0 : decode cX2_cutToken 0 = .ok (.iload_n 2, 1) := by decide +kernel
theorem dX2_cutToken_1 : decode cX2_cutToken 1 = .ok (.iconst 1, 1) := by decide +kernel
theorem dX2_cutToken_2 : decode cX2_cutToken 2 = .ok (.iadd, 1) := by decide +kernel
theorem dX2_cutToken_3 : decode cX2_cutToken 3 = .ok (.istore_n 3, 1) := by decide +kernel
theorem dX2_cutToken_4 : decode cX2_cutToken 4 = .ok (.aload_n 0, 1) := by decide +kernel
theorem dX2_cutToken_5 : decode cX2_cutToken 5 = .ok (.getfield 23, 3) := by decide +kernel
theorem dX2_cutToken_8 : decode cX2_cutToken 8 = .ok (.iload_n 1, 1) := by decide +kernel
theorem dX2_cutToken_9 : decode cX2_cutToken 9 = .ok (.iload_n 2, 1) := by decide +kernel
theorem dX2_cutToken_10 : decode cX2_cutToken 10 = .ok (.iastore, 1) := by decide +kernel
theorem dX2_cutToken_11 : decode cX2_cutToken 11 = .ok (.aload_n 0, 1) := by decide +kernel
theorem dX2_cutToken_12 : decode cX2_cutToken 12 = .ok (.getfield 9, 3) := by decide +kernel
theorem dX2_cutToken_15 : decode cX2_cutToken 15 = .ok (.iload_n 2, 1) := by decide +kernel
theorem dX2_cutToken_16 : decode cX2_cutToken 16 = .ok (.baload, 1) := by decide +kernel
theorem dX2_cutToken_17 : decode cX2_cutToken 17 = .ok (.invokestatic 86, 3) := by decide +kernel
theorem dX2_cutToken_20 : decode cX2_cutToken 20 = .ok (.ifCond .eq 51, 3) := by decide +kernel
theorem dX2_cutToken_23 : decode cX2_cutToken 23 = .ok (.iload_n 3, 1) := by decide +kernel
theorem dX2_cutToken_24 : decode cX2_cutToken 24 = .ok (.aload_n 0, 1) := by decide +kernel
theorem dX2_cutToken_25 : decode cX2_cutToken 25 = .ok (.getfield 15, 3) := by decide +kernel
theorem dX2_cutToken_28 : decode cX2_cutToken 28 = .ok (.if_icmp .ge 21, 3) := by decide +kernel
theorem dX2_cutToken_31 : decode cX2_cutToken 31 = .ok (.aload_n 0, 1) := by decide +kernel
theorem dX2_cutToken_32 : decode cX2_cutToken 32 = .ok (.getfield 9, 3) := by decide +kernel
theorem dX2_cutToken_35 : decode cX2_cutToken 35 = .ok (.iload_n 3, 1) := by decide +kernel
theorem dX2_cutToken_36 : decode cX2_cutToken 36 = .ok (.baload, 1) := by decide +kernel
theorem dX2_cutToken_37 : decode cX2_cutToken 37 = .ok (.invokestatic 86, 3) := by decide +kernel
theorem dX2_cutToken_40 : decode cX2_cutToken 40 = .ok (.ifCond .eq 9, 3) := by decide +kernel
theorem dX2_cutToken_43 : decode cX2_cutToken 43 = .ok (.iinc 3 1, 3) := by decide +kernel
theorem dX2_cutToken_46 : decode cX2_cutToken 46 = .ok (.goto (-23), 3) := by decide +kernel
theorem dX2_cutToken_49 : decode cX2_cutToken 49 = .ok (.aload_n 0, 1) := by decide +kernel
theorem dX2_cutToken_50 : decode cX2_cutToken 50 = .ok (.getfield 19, 3) := by decide +kernel
theorem dX2_cutToken_53 : decode cX2_cutToken 53 = .ok (.iload_n 1, 1) := by decide +kernel
theorem dX2_cutToken_54 : decode cX2_cutToken 54 = .ok (.iconst 1, 1) := by decide +kernel
theorem dX2_cutToken_55 : decode cX2_cutToken 55 = .ok (.iastore, 1) := by decide +kernel
theorem dX2_cutToken_56 : decode cX2_cutToken 56 = .ok (.aload_n 0, 1) := by decide +kernel
theorem dX2_cutToken_57 : decode cX2_cutToken 57 = .ok (.getfield 26, 3) := by decide +kernel
theorem dX2_cutToken_60 : decode cX2_cutToken 60 = .ok (.iload_n 1, 1) := by decide +kernel
theorem dX2_cutToken_61 : decode cX2_cutToken 61 = .ok (.aload_n 0, 1) := by decide +kernel
theorem dX2_cutToken_62 : decode cX2_cutToken 62 = .ok (.iload_n 2, 1) := by decide +kernel
theorem dX2_cutToken_63 : decode cX2_cutToken 63 = .ok (.iload_n 3, 1) := by decide +kernel
theorem dX2_cutToken_64 : decode cX2_cutToken 64 = .ok (.invokevirtual 90, 3) := by decide +kernel
theorem dX2_cutToken_67 : decode cX2_cutToken 67 = .ok (.iastore, 1) := by decide +kernel
theorem dX2_cutToken_68 : decode cX2_cutToken 68 = .ok (.goto 85, 3) := by decide +kernel
theorem dX2_cutToken_71 : decode cX2_cutToken 71 = .ok (.aload_n 0, 1) := by decide +kernel
theorem dX2_cutToken_72 : decode cX2_cutToken 72 = .ok (.getfield 9, 3) := by decide +kernel
theorem dX2_cutToken_75 : decode cX2_cutToken 75 = .ok (.iload_n 2, 1) := by decide +kernel
theorem dX2_cutToken_76 : decode cX2_cutToken 76 = .ok (.baload, 1) := by decide +kernel
theorem dX2_cutToken_77 : decode cX2_cutToken 77 = .ok (.invokestatic 93, 3) := by decide +kernel
theorem dX2_cutToken_80 : decode cX2_cutToken 80 = .ok (.ifCond .eq 51, 3) := by decide +kernel
theorem dX2_cutToken_83 : decode cX2_cutToken 83 = .ok (.iload_n 3, 1) := by decide +kernel
theorem dX2_cutToken_84 : decode cX2_cutToken 84 = .ok (.aload_n 0, 1) := by decide +kernel
theorem dX2_cutToken_85 : decode cX2_cutToken 85 = .ok (.getfield 15, 3) := by decide +kernel
theorem dX2_cutToken_88 : decode cX2_cutToken 88 = .ok (.if_icmp .ge 21, 3) := by decide +kernel
theorem dX2_cutToken_91 : decode cX2_cutToken 91 = .ok (.aload_n 0, 1) := by decide +kernel
theorem dX2_cutToken_92 : decode cX2_cutToken 92 = .ok (.getfield 9, 3) := by decide +kernel
theorem dX2_cutToken_95 : decode cX2_cutToken 95 = .ok (.iload_n 3, 1) := by decide +kernel
theorem dX2_cutToken_96 : decode cX2_cutToken 96 = .ok (.baload, 1) := by decide +kernel
theorem dX2_cutToken_97 : decode cX2_cutToken 97 = .ok (.invokestatic 93, 3) := by decide +kernel
theorem dX2_cutToken_100 : decode cX2_cutToken 100 = .ok (.ifCond .eq 9, 3) := by decide +kernel
theorem dX2_cutToken_103 : decode cX2_cutToken 103 = .ok (.iinc 3 1, 3) := by decide +kernel
theorem dX2_cutToken_106 : decode cX2_cutToken 106 = .ok (.goto (-23), 3) := by decide +kernel
theorem dX2_cutToken_109 : decode cX2_cutToken 109 = .ok (.aload_n 0, 1) := by decide +kernel
theorem dX2_cutToken_110 : decode cX2_cutToken 110 = .ok (.getfield 19, 3) := by decide +kernel
theorem dX2_cutToken_113 : decode cX2_cutToken 113 = .ok (.iload_n 1, 1) := by decide +kernel
theorem dX2_cutToken_114 : decode cX2_cutToken 114 = .ok (.iconst 2, 1) := by decide +kernel
theorem dX2_cutToken_115 : decode cX2_cutToken 115 = .ok (.iastore, 1) := by decide +kernel
theorem dX2_cutToken_116 : decode cX2_cutToken 116 = .ok (.aload_n 0, 1) := by decide +kernel
theorem dX2_cutToken_117 : decode cX2_cutToken 117 = .ok (.getfield 26, 3) := by decide +kernel
theorem dX2_cutToken_120 : decode cX2_cutToken 120 = .ok (.iload_n 1, 1) := by decide +kernel
theorem dX2_cutToken_121 : decode cX2_cutToken 121 = .ok (.aload_n 0, 1) := by decide +kernel
theorem dX2_cutToken_122 : decode cX2_cutToken 122 = .ok (.iload_n 2, 1) := by decide +kernel
theorem dX2_cutToken_123 : decode cX2_cutToken 123 = .ok (.iload_n 3, 1) := by decide +kernel
theorem dX2_cutToken_124 : decode cX2_cutToken 124 = .ok (.invokevirtual 96, 3) := by decide +kernel
theorem dX2_cutToken_127 : decode cX2_cutToken 127 = .ok (.iastore, 1) := by decide +kernel
theorem dX2_cutToken_128 : decode cX2_cutToken 128 = .ok (.goto 25, 3) := by decide +kernel
theorem dX2_cutToken_131 : decode cX2_cutToken 131 = .ok (.aload_n 0, 1) := by decide +kernel
theorem dX2_cutToken_132 : decode cX2_cutToken 132 = .ok (.getfield 19, 3) := by decide +kernel
theorem dX2_cutToken_135 : decode cX2_cutToken 135 = .ok (.iload_n 1, 1) := by decide +kernel
theorem dX2_cutToken_136 : decode cX2_cutToken 136 = .ok (.aload_n 0, 1) := by decide +kernel
theorem dX2_cutToken_137 : decode cX2_cutToken 137 = .ok (.getfield 9, 3) := by decide +kernel
theorem dX2_cutToken_140 : decode cX2_cutToken 140 = .ok (.iload_n 2, 1) := by decide +kernel
theorem dX2_cutToken_141 : decode cX2_cutToken 141 = .ok (.baload, 1) := by decide +kernel
theorem dX2_cutToken_142 : decode cX2_cutToken 142 = .ok (.bipush 59, 2) := by decide +kernel
theorem dX2_cutToken_144 : decode cX2_cutToken 144 = .ok (.if_icmp .ne 7, 3) := by decide +kernel
theorem dX2_cutToken_147 : decode cX2_cutToken 147 = .ok (.iconst 3, 1) := by decide +kernel
theorem dX2_cutToken_148 : decode cX2_cutToken 148 = .ok (.goto 4, 3) := by decide +kernel
theorem dX2_cutToken_151 : decode cX2_cutToken 151 = .ok (.iconst 4, 1) := by decide +kernel
theorem dX2_cutToken_152 : decode cX2_cutToken 152 = .ok (.iastore, 1) := by decide +kernel
theorem dX2_cutToken_153 : decode cX2_cutToken 153 = .ok (.iload_n 3, 1) := by decide +kernel
theorem dX2_cutToken_154 : decode cX2_cutToken 154 = .ok (.ireturn, 1) := by decide +kernel
set_option maxRecDepth 20000 in
theorem ggX2_wordAt_X2_wordOf : GoodIn wsX2_wordAt wsX2_wordOf := goodIn_r _ [4] (by decide +kernel) (by decide +kernel)
set_option maxRecDepth 20000 in
theorem gX2_wordAt_X2_wordOf : GoodIn wsX2_wordAt (va_wsS RX2 99 yX2_wordOf wsX2_wordOf) := goodIn_app (goodIn_of _ (by decide +kernel)) ggX2_wordAt_X2_wordOf
set_option maxRecDepth 20000 in
theorem ggX2_wordAt_X2_isSpelt : GoodIn wsX2_wordAt wsX2_isSpelt := goodIn_r _ [8, 9, 10, 11, 12, 13, 14, 15, 16, 17, 18, 19, 20, 21, 22, 23, 24, 25, 26, 27, 28, 29, 30, 31, 32, 33, 34, 35, 36, 37, 38, 39, 40, 41, 42, 43, 44, 45, 46, 47, 48, 49, 50, 51, 52, 53, 54, 55, 56, 57, 58, 59, 60, 61, 62, 63, 64, 65] (by decide +kernel) (by decide +kernel)
set_option maxRecDepth 20000 in
theorem gX2_wordAt_X2_isSpelt : GoodIn wsX2_wordAt (wsV RX2 103 RX2 yX2_isSpelt wsX2_isSpelt) := goodIn_app (goodIn_of _ (by decide +kernel)) ggX2_wordAt_X2_isSpelt
theorem dX2_wordAt_0 : decode cX2_wordAt 0 = .ok (.iconst 0, 1) := by decide +kernel
theorem dX2_wordAt_1 : decode cX2_wordAt 1 = .ok (.istore_n 3, 1) := by decide +kernel
theorem dX2_wordAt_2 : decode cX2_wordAt 2 = .ok (.iload_n 3, 1) := by decide +kernel
theorem dX2_wordAt_3 : decode cX2_wordAt 3 = .ok (.bipush 12, 2) := by decide +kernel
theorem dX2_wordAt_5 : decode cX2_wordAt 5 = .ok (.if_icmp .ge 22, 3) := by decide +kernel
theorem dX2_wordAt_8 : decode cX2_wordAt 8 = .ok (.aload_n 0, 1) := by decide +kernel
theorem dX2_wordAt_9 : decode cX2_wordAt 9 = .ok (.iload_n 3, 1) := by decide +kernel
theorem dX2_wordAt_10 : decode cX2_wordAt 10 = .ok (.invokestatic 99, 3) := by decide +kernel
theorem dX2_wordAt_13 : decode cX2_wordAt 13 = .ok (.iload_n 1, 1) := by decide +kernel
theorem dX2_wordAt_14 : decode cX2_wordAt 14 = .ok (.iload_n 2, 1) := by decide +kernel
theorem dX2_wordAt_15 : decode cX2_wordAt 15 = .ok (.invokevirtual 103, 3) := by decide +kernel
theorem dX2_wordAt_18 : decode cX2_wordAt 18 = .ok (.ifCond .ne 9, 3) := by decide +kernel
theorem dX2_wordAt_21 : decode cX2_wordAt 21 = .ok (.iinc 3 1, 3) := by decide +kernel
theorem dX2_wordAt_24 : decode cX2_wordAt 24 = .ok (.goto (-22), 3) := by decide +kernel
theorem dX2_wordAt_27 : decode cX2_wordAt 27 = .ok (.iload_n 3, 1) := by decide +kernel
theorem dX2_wordAt_28 : decode cX2_wordAt 28 = .ok (.ireturn, 1) := by decide +kernel
theorem dX2_numberAt_0 : decode cX2_numberAt 0 = .ok (.iconst 0, 1) := by decide +kernel
theorem dX2_numberAt_1 : decode cX2_numberAt 1 = .ok (.istore_n 3, 1) := by decide +kernel
theorem dX2_numberAt_2 : decode cX2_numberAt 2 = .ok (.iload_n 1, 1) := by decide +kernel
theorem dX2_numberAt_3 : decode cX2_numberAt 3 = .ok (.istore 4, 2) := by decide +kernel
theorem dX2_numberAt_5 : decode cX2_numberAt 5 = .ok (.iload 4, 2) := by decide +kernel
theorem dX2_numberAt_7 : decode cX2_numberAt 7 = .ok (.iload_n 2, 1) := by decide +kernel
theorem dX2_numberAt_8 : decode cX2_numberAt 8 = .ok (.if_icmp .ge 31, 3) := by decide +kernel
theorem dX2_numberAt_11 : decode cX2_numberAt 11 = .ok (.iload_n 3, 1) := by decide +kernel
theorem dX2_numberAt_12 : decode cX2_numberAt 12 = .ok (.bipush 10, 2) := by decide +kernel
theorem dX2_numberAt_14 : decode cX2_numberAt 14 = .ok (.imul, 1) := by decide +kernel
theorem dX2_numberAt_15 : decode cX2_numberAt 15 = .ok (.aload_n 0, 1) := by decide +kernel
theorem dX2_numberAt_16 : decode cX2_numberAt 16 = .ok (.getfield 9, 3) := by decide +kernel
theorem dX2_numberAt_19 : decode cX2_numberAt 19 = .ok (.iload 4, 2) := by decide +kernel
theorem dX2_numberAt_21 : decode cX2_numberAt 21 = .ok (.baload, 1) := by decide +kernel
theorem dX2_numberAt_22 : decode cX2_numberAt 22 = .ok (.bipush 48, 2) := by decide +kernel
theorem dX2_numberAt_24 : decode cX2_numberAt 24 = .ok (.isub, 1) := by decide +kernel
theorem dX2_numberAt_25 : decode cX2_numberAt 25 = .ok (.iadd, 1) := by decide +kernel
theorem dX2_numberAt_26 : decode cX2_numberAt 26 = .ok (.sipush 1000, 3) := by decide +kernel
theorem dX2_numberAt_29 : decode cX2_numberAt 29 = .ok (.invokestatic 107, 3) := by decide +kernel
theorem dX2_numberAt_32 : decode cX2_numberAt 32 = .ok (.istore_n 3, 1) := by decide +kernel
theorem dX2_numberAt_33 : decode cX2_numberAt 33 = .ok (.iinc 4 1, 3) := by decide +kernel
theorem dX2_numberAt_36 : decode cX2_numberAt 36 = .ok (.goto (-31), 3) := by decide +kernel
theorem dX2_numberAt_39 : decode cX2_numberAt 39 = .ok (.iload_n 3, 1) := by decide +kernel
theorem dX2_numberAt_40 : decode cX2_numberAt 40 = .ok (.ireturn, 1) := by decide +kernel
set_option maxRecDepth 20000 in
theorem ggX2_isSpelt_J0_length_8abf5 : GoodIn wsX2_isSpelt wsJ0_length_8abf5 := goodIn_r _ [6, 7, 8, 9, 10, 5, 11, 12, 13] (by decide +kernel) (by decide +kernel)
set_option maxRecDepth 20000 in
theorem gX2_isSpelt_J0_length_8abf5 : GoodIn wsX2_isSpelt (wsV RX2 112 RJ0 yJ0_length_8abf5 wsJ0_length_8abf5) := goodIn_app (goodIn_of _ (by decide +kernel)) ggX2_isSpelt_J0_length_8abf5
set_option maxRecDepth 20000 in
theorem ggX2_isSpelt_J0_charAt_5068e : GoodIn wsX2_isSpelt wsJ0_charAt_5068e := goodIn_r _ [17, 7, 18, 19, 20, 5, 21, 12, 13, 22, 23, 24, 25, 26, 27, 28, 29, 30, 31, 32, 33, 34, 35, 36, 37, 38, 39, 40, 41, 42, 43, 44, 45, 46, 47, 48, 49, 50] (by decide +kernel) (by decide +kernel)
set_option maxRecDepth 20000 in
theorem gX2_isSpelt_J0_charAt_5068e : GoodIn wsX2_isSpelt (wsV RX2 118 RJ0 yJ0_charAt_5068e wsJ0_charAt_5068e) := goodIn_app (goodIn_of _ (by decide +kernel)) ggX2_isSpelt_J0_charAt_5068e
theorem dX2_isSpelt_0 : decode cX2_isSpelt 0 = .ok (.iload_n 3, 1) := by decide +kernel
theorem dX2_isSpelt_1 : decode cX2_isSpelt 1 = .ok (.iload_n 2, 1) := by decide +kernel
theorem dX2_isSpelt_2 : decode cX2_isSpelt 2 = .ok (.isub, 1) := by decide +kernel
theorem dX2_isSpelt_3 : decode cX2_isSpelt 3 = .ok (.aload_n 1, 1) := by decide +kernel
theorem dX2_isSpelt_4 : decode cX2_isSpelt 4 = .ok (.invokevirtual 112, 3) := by decide +kernel
theorem dX2_isSpelt_7 : decode cX2_isSpelt 7 = .ok (.if_icmp .eq 5, 3) := by decide +kernel
theorem dX2_isSpelt_10 : decode cX2_isSpelt 10 = .ok (.iconst 0, 1) := by decide +kernel
theorem dX2_isSpelt_11 : decode cX2_isSpelt 11 = .ok (.ireturn, 1) := by decide +kernel
theorem dX2_isSpelt_12 : decode cX2_isSpelt 12 = .ok (.iload_n 2, 1) := by decide +kernel
theorem dX2_isSpelt_13 : decode cX2_isSpelt 13 = .ok (.istore 4, 2) := by decide +kernel
theorem dX2_isSpelt_15 : decode cX2_isSpelt 15 = .ok (.iload 4, 2) := by decide +kernel
theorem dX2_isSpelt_17 : decode cX2_isSpelt 17 = .ok (.iload_n 3, 1) := by decide +kernel
theorem dX2_isSpelt_18 : decode cX2_isSpelt 18 = .ok (.if_icmp .ge 29, 3) := by decide +kernel
theorem dX2_isSpelt_21 : decode cX2_isSpelt 21 = .ok (.aload_n 0, 1) := by decide +kernel
theorem dX2_isSpelt_22 : decode cX2_isSpelt 22 = .ok (.getfield 9, 3) := by decide +kernel
theorem dX2_isSpelt_25 : decode cX2_isSpelt 25 = .ok (.iload 4, 2) := by decide +kernel
theorem dX2_isSpelt_27 : decode cX2_isSpelt 27 = .ok (.baload, 1) := by decide +kernel
theorem dX2_isSpelt_28 : decode cX2_isSpelt 28 = .ok (.aload_n 1, 1) := by decide +kernel
theorem dX2_isSpelt_29 : decode cX2_isSpelt 29 = .ok (.iload 4, 2) := by decide +kernel
theorem dX2_isSpelt_31 : decode cX2_isSpelt 31 = .ok (.iload_n 2, 1) := by decide +kernel
theorem dX2_isSpelt_32 : decode cX2_isSpelt 32 = .ok (.isub, 1) := by decide +kernel
theorem dX2_isSpelt_33 : decode cX2_isSpelt 33 = .ok (.invokevirtual 118, 3) := by decide +kernel
theorem dX2_isSpelt_36 : decode cX2_isSpelt 36 = .ok (.if_icmp .eq 5, 3) := by decide +kernel
theorem dX2_isSpelt_39 : decode cX2_isSpelt 39 = .ok (.iconst 0, 1) := by decide +kernel
theorem dX2_isSpelt_40 : decode cX2_isSpelt 40 = .ok (.ireturn, 1) := by decide +kernel
theorem dX2_isSpelt_41 : decode cX2_isSpelt 41 = .ok (.iinc 4 1, 3) := by decide +kernel
theorem dX2_isSpelt_44 : decode cX2_isSpelt 44 = .ok (.goto (-29), 3) := by decide +kernel
theorem dX2_isSpelt_47 : decode cX2_isSpelt 47 = .ok (.iconst 1, 1) := by decide +kernel
theorem dX2_isSpelt_48 : decode cX2_isSpelt 48 = .ok (.ireturn, 1) := by decide +kernel
theorem dX2_wordOf_0 : decode cX2_wordOf 0 = .ok (.iload_n 0, 1) := by decide +kernel
theorem dX2_wordOf_1 : decode cX2_wordOf 1 = .ok (.tableswitch 99 0 11 #[63, 66, 69, 72, 75, 78, 81, 84, 87, 90, 93, 96], 63) := by decide +kernel
theorem dX2_wordOf_64 : decode cX2_wordOf 64 = .ok (.ldc 122, 2) := by decide +kernel
theorem dX2_wordOf_66 : decode cX2_wordOf 66 = .ok (.areturn, 1) := by decide +kernel
theorem dX2_wordOf_67 : decode cX2_wordOf 67 = .ok (.ldc 124, 2) := by decide +kernel
theorem dX2_wordOf_69 : decode cX2_wordOf 69 = .ok (.areturn, 1) := by decide +kernel
theorem dX2_wordOf_70 : decode cX2_wordOf 70 = .ok (.ldc 126, 2) := by decide +kernel
theorem dX2_wordOf_72 : decode cX2_wordOf 72 = .ok (.areturn, 1) := by decide +kernel
theorem dX2_wordOf_73 : decode cX2_wordOf 73 = .ok (.ldc 128, 2) := by decide +kernel
theorem dX2_wordOf_75 : decode cX2_wordOf 75 = .ok (.areturn, 1) := by decide +kernel
theorem dX2_wordOf_76 : decode cX2_wordOf 76 = .ok (.ldc 130, 2) := by decide +kernel
theorem dX2_wordOf_78 : decode cX2_wordOf 78 = .ok (.areturn, 1) := by decide +kernel
theorem dX2_wordOf_79 : decode cX2_wordOf 79 = .ok (.ldc 132, 2) := by decide +kernel
theorem dX2_wordOf_81 : decode cX2_wordOf 81 = .ok (.areturn, 1) := by decide +kernel
theorem dX2_wordOf_82 : decode cX2_wordOf 82 = .ok (.ldc 134, 2) := by decide +kernel
theorem dX2_wordOf_84 : decode cX2_wordOf 84 = .ok (.areturn, 1) := by decide +kernel
theorem dX2_wordOf_85 : decode cX2_wordOf 85 = .ok (.ldc 136, 2) := by decide +kernel
theorem dX2_wordOf_87 : decode cX2_wordOf 87 = .ok (.areturn, 1) := by decide +kernel
theorem dX2_wordOf_88 : decode cX2_wordOf 88 = .ok (.ldc 137, 2) := by decide +kernel
theorem dX2_wordOf_90 : decode cX2_wordOf 90 = .ok (.areturn, 1) := by decide +kernel
theorem dX2_wordOf_91 : decode cX2_wordOf 91 = .ok (.ldc 138, 2) := by decide +kernel
theorem dX2_wordOf_93 : decode cX2_wordOf 93 = .ok (.areturn, 1) := by decide +kernel
theorem dX2_wordOf_94 : decode cX2_wordOf 94 = .ok (.ldc 140, 2) := by decide +kernel
theorem dX2_wordOf_96 : decode cX2_wordOf 96 = .ok (.areturn, 1) := by decide +kernel
theorem dX2_wordOf_97 : decode cX2_wordOf 97 = .ok (.ldc 142, 2) := by decide +kernel
theorem dX2_wordOf_99 : decode cX2_wordOf 99 = .ok (.areturn, 1) := by decide +kernel
theorem dX2_wordOf_100 : decode cX2_wordOf 100 = .ok (.ldc 144, 2) := by decide +kernel
theorem dX2_wordOf_102 : decode cX2_wordOf 102 = .ok (.areturn, 1) := by decide +kernel
theorem dX2_isLetter_0 : decode cX2_isLetter 0 = .ok (.iload_n 0, 1) := by decide +kernel
theorem dX2_isLetter_1 : decode cX2_isLetter 1 = .ok (.bipush 97, 2) := by decide +kernel
theorem dX2_isLetter_3 : decode cX2_isLetter 3 = .ok (.if_icmp .lt 13, 3) := by decide +kernel
theorem dX2_isLetter_6 : decode cX2_isLetter 6 = .ok (.iload_n 0, 1) := by decide +kernel
theorem dX2_isLetter_7 : decode cX2_isLetter 7 = .ok (.bipush 122, 2) := by decide +kernel
theorem dX2_isLetter_9 : decode cX2_isLetter 9 = .ok (.if_icmp .gt 7, 3) := by decide +kernel
theorem dX2_isLetter_12 : decode cX2_isLetter 12 = .ok (.iconst 1, 1) := by decide +kernel
theorem dX2_isLetter_13 : decode cX2_isLetter 13 = .ok (.goto 4, 3) := by decide +kernel
theorem dX2_isLetter_16 : decode cX2_isLetter 16 = .ok (.iconst 0, 1) := by decide +kernel
theorem dX2_isLetter_17 : decode cX2_isLetter 17 = .ok (.ireturn, 1) := by decide +kernel
theorem dX2_isDigit_0 : decode cX2_isDigit 0 = .ok (.iload_n 0, 1) := by decide +kernel
theorem dX2_isDigit_1 : decode cX2_isDigit 1 = .ok (.bipush 48, 2) := by decide +kernel
theorem dX2_isDigit_3 : decode cX2_isDigit 3 = .ok (.if_icmp .lt 13, 3) := by decide +kernel
theorem dX2_isDigit_6 : decode cX2_isDigit 6 = .ok (.iload_n 0, 1) := by decide +kernel
theorem dX2_isDigit_7 : decode cX2_isDigit 7 = .ok (.bipush 57, 2) := by decide +kernel
theorem dX2_isDigit_9 : decode cX2_isDigit 9 = .ok (.if_icmp .gt 7, 3) := by decide +kernel
theorem dX2_isDigit_12 : decode cX2_isDigit 12 = .ok (.iconst 1, 1) := by decide +kernel
theorem dX2_isDigit_13 : decode cX2_isDigit 13 = .ok (.goto 4, 3) := by decide +kernel
theorem dX2_isDigit_16 : decode cX2_isDigit 16 = .ok (.iconst 0, 1) := by decide +kernel
theorem dX2_isDigit_17 : decode cX2_isDigit 17 = .ok (.ireturn, 1) := by decide +kernel
end
section
theorem dJ6_bitCount_0f7a4_0 : decode cJ6_bitCount_0f7a4 0 = .ok (.iload_n 0, 1) := by decide +kernel
theorem dJ6_bitCount_0f7a4_1 : decode cJ6_bitCount_0f7a4 1 = .ok (.iload_n 0, 1) := by decide +kernel
theorem dJ6_bitCount_0f7a4_2 : decode cJ6_bitCount_0f7a4 2 = .ok (.iconst 1, 1) := by decide +kernel
theorem dJ6_bitCount_0f7a4_3 : decode cJ6_bitCount_0f7a4 3 = .ok (.iushr, 1) := by decide +kernel
theorem dJ6_bitCount_0f7a4_4 : decode cJ6_bitCount_0f7a4 4 = .ok (.ldc_w 265, 3) := by decide +kernel
theorem dJ6_bitCount_0f7a4_7 : decode cJ6_bitCount_0f7a4 7 = .ok (.iand, 1) := by decide +kernel
theorem dJ6_bitCount_0f7a4_8 : decode cJ6_bitCount_0f7a4 8 = .ok (.isub, 1) := by decide +kernel
theorem dJ6_bitCount_0f7a4_9 : decode cJ6_bitCount_0f7a4 9 = .ok (.istore_n 0, 1) := by decide +kernel
theorem dJ6_bitCount_0f7a4_10 : decode cJ6_bitCount_0f7a4 10 = .ok (.iload_n 0, 1) := by decide +kernel
theorem dJ6_bitCount_0f7a4_11 : decode cJ6_bitCount_0f7a4 11 = .ok (.ldc_w 266, 3) := by decide +kernel
theorem dJ6_bitCount_0f7a4_14 : decode cJ6_bitCount_0f7a4 14 = .ok (.iand, 1) := by decide +kernel
theorem dJ6_bitCount_0f7a4_15 : decode cJ6_bitCount_0f7a4 15 = .ok (.iload_n 0, 1) := by decide +kernel
theorem dJ6_bitCount_0f7a4_16 : decode cJ6_bitCount_0f7a4 16 = .ok (.iconst 2, 1) := by decide +kernel
theorem dJ6_bitCount_0f7a4_17 : decode cJ6_bitCount_0f7a4 17 = .ok (.iushr, 1) := by decide +kernel
theorem dJ6_bitCount_0f7a4_18 : decode cJ6_bitCount_0f7a4 18 = .ok (.ldc_w 266, 3) := by decide +kernel
theorem dJ6_bitCount_0f7a4_21 : decode cJ6_bitCount_0f7a4 21 = .ok (.iand, 1) := by decide +kernel
theorem dJ6_bitCount_0f7a4_22 : decode cJ6_bitCount_0f7a4 22 = .ok (.iadd, 1) := by decide +kernel
theorem dJ6_bitCount_0f7a4_23 : decode cJ6_bitCount_0f7a4 23 = .ok (.istore_n 0, 1) := by decide +kernel
theorem dJ6_bitCount_0f7a4_24 : decode cJ6_bitCount_0f7a4 24 = .ok (.iload_n 0, 1) := by decide +kernel
theorem dJ6_bitCount_0f7a4_25 : decode cJ6_bitCount_0f7a4 25 = .ok (.iload_n 0, 1) := by decide +kernel
theorem dJ6_bitCount_0f7a4_26 : decode cJ6_bitCount_0f7a4 26 = .ok (.iconst 4, 1) := by decide +kernel
theorem dJ6_bitCount_0f7a4_27 : decode cJ6_bitCount_0f7a4 27 = .ok (.iushr, 1) := by decide +kernel
theorem dJ6_bitCount_0f7a4_28 : decode cJ6_bitCount_0f7a4 28 = .ok (.iadd, 1) := by decide +kernel
theorem dJ6_bitCount_0f7a4_29 : decode cJ6_bitCount_0f7a4 29 = .ok (.ldc_w 267, 3) := by decide +kernel
theorem dJ6_bitCount_0f7a4_32 : decode cJ6_bitCount_0f7a4 32 = .ok (.iand, 1) := by decide +kernel
theorem dJ6_bitCount_0f7a4_33 : decode cJ6_bitCount_0f7a4 33 = .ok (.istore_n 0, 1) := by decide +kernel
theorem dJ6_bitCount_0f7a4_34 : decode cJ6_bitCount_0f7a4 34 = .ok (.iload_n 0, 1) := by decide +kernel
theorem dJ6_bitCount_0f7a4_35 : decode cJ6_bitCount_0f7a4 35 = .ok (.iload_n 0, 1) := by decide +kernel
theorem dJ6_bitCount_0f7a4_36 : decode cJ6_bitCount_0f7a4 36 = .ok (.bipush 8, 2) := by decide +kernel
theorem dJ6_bitCount_0f7a4_38 : decode cJ6_bitCount_0f7a4 38 = .ok (.iushr, 1) := by decide +kernel
theorem dJ6_bitCount_0f7a4_39 : decode cJ6_bitCount_0f7a4 39 = .ok (.iadd, 1) := by decide +kernel
theorem dJ6_bitCount_0f7a4_40 : decode cJ6_bitCount_0f7a4 40 = .ok (.istore_n 0, 1) := by decide +kernel
theorem dJ6_bitCount_0f7a4_41 : decode cJ6_bitCount_0f7a4 41 = .ok (.iload_n 0, 1) := by decide +kernel
theorem dJ6_bitCount_0f7a4_42 : decode cJ6_bitCount_0f7a4 42 = .ok (.iload_n 0, 1) := by decide +kernel
theorem dJ6_bitCount_0f7a4_43 : decode cJ6_bitCount_0f7a4 43 = .ok (.bipush 16, 2) := by decide +kernel
theorem dJ6_bitCount_0f7a4_45 : decode cJ6_bitCount_0f7a4 45 = .ok (.iushr, 1) := by decide +kernel
theorem dJ6_bitCount_0f7a4_46 : decode cJ6_bitCount_0f7a4 46 = .ok (.iadd, 1) := by decide +kernel
theorem dJ6_bitCount_0f7a4_47 : decode cJ6_bitCount_0f7a4 47 = .ok (.istore_n 0, 1) := by decide +kernel
theorem dJ6_bitCount_0f7a4_48 : decode cJ6_bitCount_0f7a4 48 = .ok (.iload_n 0, 1) := by decide +kernel
theorem dJ6_bitCount_0f7a4_49 : decode cJ6_bitCount_0f7a4 49 = .ok (.bipush 63, 2) := by decide +kernel
theorem dJ6_bitCount_0f7a4_51 : decode cJ6_bitCount_0f7a4 51 = .ok (.iand, 1) := by decide +kernel
theorem dJ6_bitCount_0f7a4_52 : decode cJ6_bitCount_0f7a4 52 = .ok (.ireturn, 1) := by decide +kernel
theorem dJ9_max_7cf53_0 : decode cJ9_max_7cf53 0 = .ok (.iload_n 0, 1) := by decide +kernel
theorem dJ9_max_7cf53_1 : decode cJ9_max_7cf53 1 = .ok (.iload_n 1, 1) := by decide +kernel
theorem dJ9_max_7cf53_2 : decode cJ9_max_7cf53 2 = .ok (.if_icmp .lt 7, 3) := by decide +kernel
theorem dJ9_max_7cf53_5 : decode cJ9_max_7cf53 5 = .ok (.iload_n 0, 1) := by decide +kernel
theorem dJ9_max_7cf53_6 : decode cJ9_max_7cf53 6 = .ok (.goto 4, 3) := by decide +kernel
theorem dJ9_max_7cf53_9 : decode cJ9_max_7cf53 9 = .ok (.iload_n 1, 1) := by decide +kernel
theorem dJ9_max_7cf53_10 : decode cJ9_max_7cf53 10 = .ok (.ireturn, 1) := by decide +kernel
theorem dJ9_min_7cf53_0 : decode cJ9_min_7cf53 0 = .ok (.iload_n 0, 1) := by decide +kernel
theorem dJ9_min_7cf53_1 : decode cJ9_min_7cf53 1 = .ok (.iload_n 1, 1) := by decide +kernel
theorem dJ9_min_7cf53_2 : decode cJ9_min_7cf53 2 = .ok (.if_icmp .gt 7, 3) := by decide +kernel
theorem dJ9_min_7cf53_5 : decode cJ9_min_7cf53 5 = .ok (.iload_n 0, 1) := by decide +kernel
theorem dJ9_min_7cf53_6 : decode cJ9_min_7cf53 6 = .ok (.goto 4, 3) := by decide +kernel
theorem dJ9_min_7cf53_9 : decode cJ9_min_7cf53 9 = .ok (.iload_n 1, 1) := by decide +kernel
theorem dJ9_min_7cf53_10 : decode cJ9_min_7cf53 10 = .ok (.ireturn, 1) := by decide +kernel
set_option maxRecDepth 20000 in
theorem ggJ0_length_8abf5_J0_coder_7d493 : GoodIn wsJ0_length_8abf5 wsJ0_coder_7d493 := goodIn_r _ [6, 7, 8] (by decide +kernel) (by decide +kernel)
set_option maxRecDepth 20000 in
theorem gJ0_length_8abf5_J0_coder_7d493 : GoodIn wsJ0_length_8abf5 (wsV RJ0 335 RJ0 yJ0_coder_7d493 wsJ0_coder_7d493) := goodIn_app (goodIn_of _ (by decide +kernel)) ggJ0_length_8abf5_J0_coder_7d493
theorem dJ0_length_8abf5_0 : decode cJ0_length_8abf5 0 = .ok (.aload_n 0, 1) := by decide +kernel
theorem dJ0_length_8abf5_1 : decode cJ0_length_8abf5 1 = .ok (.getfield 9, 3) := by decide +kernel
theorem dJ0_length_8abf5_4 : decode cJ0_length_8abf5 4 = .ok (.arraylength, 1) := by decide +kernel
theorem dJ0_length_8abf5_5 : decode cJ0_length_8abf5 5 = .ok (.aload_n 0, 1) := by decide +kernel
theorem dJ0_length_8abf5_6 : decode cJ0_length_8abf5 6 = .ok (.invokevirtual 335, 3) := by decide +kernel
theorem dJ0_length_8abf5_9 : decode cJ0_length_8abf5 9 = .ok (.ishr, 1) := by decide +kernel
theorem dJ0_length_8abf5_10 : decode cJ0_length_8abf5 10 = .ok (.ireturn, 1) := by decide +kernel
set_option maxRecDepth 20000 in
theorem ggJ0_charAt_5068e_J0_isLatin1_aae02 : GoodIn wsJ0_charAt_5068e wsJ0_isLatin1_aae02 := goodIn_r _ [6, 7, 8] (by decide +kernel) (by decide +kernel)
set_option maxRecDepth 20000 in
theorem gJ0_charAt_5068e_J0_isLatin1_aae02 : GoodIn wsJ0_charAt_5068e (wsV RJ0 492 RJ0 yJ0_isLatin1_aae02 wsJ0_isLatin1_aae02) := goodIn_app (goodIn_of _ (by decide +kernel)) ggJ0_charAt_5068e_J0_isLatin1_aae02
set_option maxRecDepth 20000 in
theorem ggJ0_charAt_5068e_J1_charAt_3b067 : GoodIn wsJ0_charAt_5068e wsJ1_charAt_3b067 := goodIn_r _ [12, 13, 14, 5, 15, 16, 17, 18, 19, 20] (by decide +kernel) (by decide +kernel)
set_option maxRecDepth 20000 in
theorem gJ0_charAt_5068e_J1_charAt_3b067 : GoodIn wsJ0_charAt_5068e (va_wsS RJ0 495 yJ1_charAt_3b067 wsJ1_charAt_3b067) := goodIn_app (goodIn_of _ (by decide +kernel)) ggJ0_charAt_5068e_J1_charAt_3b067
set_option maxRecDepth 20000 in
theorem ggJ0_charAt_5068e_J2_charAt_3b067 : GoodIn wsJ0_charAt_5068e wsJ2_charAt_3b067 := goodIn_r _ [24, 25, 26, 23, 27, 28, 29, 30, 31, 14, 5, 15, 16, 17, 18, 19, 20, 32, 33, 34, 35, 36, 37] (by decide +kernel) (by decide +kernel)
set_option maxRecDepth 20000 in
theorem gJ0_charAt_5068e_J2_charAt_3b067 : GoodIn wsJ0_charAt_5068e (va_wsS RJ0 498 yJ2_charAt_3b067 wsJ2_charAt_3b067) := goodIn_app (goodIn_of _ (by decide +kernel)) ggJ0_charAt_5068e_J2_charAt_3b067
theorem dJ0_charAt_5068e_0 : decode cJ0_charAt_5068e 0 = .ok (.aload_n 0, 1) := by decide +kernel
theorem dJ0_charAt_5068e_1 : decode cJ0_charAt_5068e 1 = .ok (.invokevirtual 492, 3) := by decide +kernel
theorem dJ0_charAt_5068e_4 : decode cJ0_charAt_5068e 4 = .ok (.ifCond .eq 12, 3) := by decide +kernel
theorem dJ0_charAt_5068e_7 : decode cJ0_charAt_5068e 7 = .ok (.aload_n 0, 1) := by decide +kernel
theorem dJ0_charAt_5068e_8 : decode cJ0_charAt_5068e 8 = .ok (.getfield 9, 3) := by decide +kernel
theorem dJ0_charAt_5068e_11 : decode cJ0_charAt_5068e 11 = .ok (.iload_n 1, 1) := by decide +kernel
theorem dJ0_charAt_5068e_12 : decode cJ0_charAt_5068e 12 = .ok (.invokestatic 495, 3) := by decide +kernel
theorem dJ0_charAt_5068e_15 : decode cJ0_charAt_5068e 15 = .ok (.ireturn, 1) := by decide +kernel
theorem dJ0_charAt_5068e_16 : decode cJ0_charAt_5068e 16 = .ok (.aload_n 0, 1) := by decide +kernel
theorem dJ0_charAt_5068e_17 : decode cJ0_charAt_5068e 17 = .ok (.getfield 9, 3) := by decide +kernel
theorem dJ0_charAt_5068e_20 : decode cJ0_charAt_5068e 20 = .ok (.iload_n 1, 1) := by decide +kernel
theorem dJ0_charAt_5068e_21 : decode cJ0_charAt_5068e 21 = .ok (.invokestatic 498, 3) := by decide +kernel
theorem dJ0_charAt_5068e_24 : decode cJ0_charAt_5068e 24 = .ok (.ireturn, 1) := by decide +kernel
theorem dJ0_coder_7d493_0 : decode cJ0_coder_7d493 0 = .ok (.getstatic 38, 3) := by decide +kernel
theorem dJ0_coder_7d493_3 : decode cJ0_coder_7d493 3 = .ok (.ifCond .eq 10, 3) := by decide +kernel
theorem dJ0_coder_7d493_6 : decode cJ0_coder_7d493 6 = .ok (.aload_n 0, 1) := by decide +kernel
theorem dJ0_coder_7d493_7 : decode cJ0_coder_7d493 7 = .ok (.getfield 15, 3) := by decide +kernel
theorem dJ0_coder_7d493_10 : decode cJ0_coder_7d493 10 = .ok (.goto 4, 3) := by decide +kernel
theorem dJ0_coder_7d493_13 : decode cJ0_coder_7d493 13 = .ok (.iconst 1, 1) := by decide +kernel
theorem dJ0_coder_7d493_14 : decode cJ0_coder_7d493 14 = .ok (.ireturn, 1) := by decide +kernel
theorem dJ0_isLatin1_aae02_0 : decode cJ0_isLatin1_aae02 0 = .ok (.getstatic 38, 3) := by decide +kernel
theorem dJ0_isLatin1_aae02_3 : decode cJ0_isLatin1_aae02 3 = .ok (.ifCond .eq 14, 3) := by decide +kernel
theorem dJ0_isLatin1_aae02_6 : decode cJ0_isLatin1_aae02 6 = .ok (.aload_n 0, 1) := by decide +kernel
theorem dJ0_isLatin1_aae02_7 : decode cJ0_isLatin1_aae02 7 = .ok (.getfield 15, 3) := by decide +kernel
theorem dJ0_isLatin1_aae02_10 : decode cJ0_isLatin1_aae02 10 = .ok (.ifCond .ne 7, 3) := by decide +kernel
theorem dJ0_isLatin1_aae02_13 : decode cJ0_isLatin1_aae02 13 = .ok (.iconst 1, 1) := by decide +kernel
theorem dJ0_isLatin1_aae02_14 : decode cJ0_isLatin1_aae02 14 = .ok (.goto 4, 3) := by decide +kernel
theorem dJ0_isLatin1_aae02_17 : decode cJ0_isLatin1_aae02 17 = .ok (.iconst 0, 1) := by decide +kernel
theorem dJ0_isLatin1_aae02_18 : decode cJ0_isLatin1_aae02 18 = .ok (.ireturn, 1) := by decide +kernel
set_option maxRecDepth 20000 in
theorem ggJ0_checkIndex_df160_J3_checkIndex_8e157 : GoodIn wsJ0_checkIndex_df160 wsJ3_checkIndex_8e157 := goodIn_r _ [5] (by decide +kernel) (by decide +kernel)
set_option maxRecDepth 20000 in
theorem gJ0_checkIndex_df160_J3_checkIndex_8e157 : GoodIn wsJ0_checkIndex_df160 (va_wsS RJ0 1059 yJ3_checkIndex_8e157 wsJ3_checkIndex_8e157) := goodIn_app (goodIn_of _ (by decide +kernel)) ggJ0_checkIndex_df160_J3_checkIndex_8e157
theorem dJ0_checkIndex_df160_0 : decode cJ0_checkIndex_df160 0 = .ok (.iload_n 0, 1) := by decide +kernel
theorem dJ0_checkIndex_df160_1 : decode cJ0_checkIndex_df160 1 = .ok (.iload_n 1, 1) := by decide +kernel
theorem dJ0_checkIndex_df160_2 : decode cJ0_checkIndex_df160 2 = .ok (.getstatic 1053, 3) := by decide +kernel
theorem dJ0_checkIndex_df160_5 : decode cJ0_checkIndex_df160 5 = .ok (.invokestatic 1059, 3) := by decide +kernel
theorem dJ0_checkIndex_df160_8 : decode cJ0_checkIndex_df160 8 = .ok (.pop, 1) := by decide +kernel
theorem dJ0_checkIndex_df160_9 : decode cJ0_checkIndex_df160 9 = .ok (.return_, 1) := by decide +kernel
set_option maxRecDepth 20000 in
theorem ggJ1_charAt_3b067_J0_checkIndex_df160 : GoodIn wsJ1_charAt_3b067 wsJ0_checkIndex_df160 := goodIn_r _ [4, 5, 6, 7, 8, 9] (by decide +kernel) (by decide +kernel)
set_option maxRecDepth 20000 in
theorem gJ1_charAt_3b067_J0_checkIndex_df160 : GoodIn wsJ1_charAt_3b067 (va_wsS RJ1 9 yJ0_checkIndex_df160 wsJ0_checkIndex_df160) := goodIn_app (goodIn_of _ (by decide +kernel)) ggJ1_charAt_3b067_J0_checkIndex_df160
theorem dJ1_charAt_3b067_0 : decode cJ1_charAt_3b067 0 = .ok (.iload_n 1, 1) := by decide +kernel
theorem dJ1_charAt_3b067_1 : decode cJ1_charAt_3b067 1 = .ok (.aload_n 0, 1) := by decide +kernel
theorem dJ1_charAt_3b067_2 : decode cJ1_charAt_3b067 2 = .ok (.arraylength, 1) := by decide +kernel
theorem dJ1_charAt_3b067_3 : decode cJ1_charAt_3b067 3 = .ok (.invokestatic 9, 3) := by decide +kernel
theorem dJ1_charAt_3b067_6 : decode cJ1_charAt_3b067 6 = .ok (.aload_n 0, 1) := by decide +kernel
theorem dJ1_charAt_3b067_7 : decode cJ1_charAt_3b067 7 = .ok (.iload_n 1, 1) := by decide +kernel
theorem dJ1_charAt_3b067_8 : decode cJ1_charAt_3b067 8 = .ok (.baload, 1) := by decide +kernel
theorem dJ1_charAt_3b067_9 : decode cJ1_charAt_3b067 9 = .ok (.sipush 255, 3) := by decide +kernel
theorem dJ1_charAt_3b067_12 : decode cJ1_charAt_3b067 12 = .ok (.iand, 1) := by decide +kernel
theorem dJ1_charAt_3b067_13 : decode cJ1_charAt_3b067 13 = .ok (.i2c, 1) := by decide +kernel
theorem dJ1_charAt_3b067_14 : decode cJ1_charAt_3b067 14 = .ok (.ireturn, 1) := by decide +kernel
set_option maxRecDepth 20000 in
theorem ggJ2_getChar_3b067_J2_length_9d52b : GoodIn wsJ2_getChar_3b067 wsJ2_length_9d52b := goodIn_r _ [7] (by decide +kernel) (by decide +kernel)
set_option maxRecDepth 20000 in
theorem gJ2_getChar_3b067_J2_length_9d52b : GoodIn wsJ2_getChar_3b067 (va_wsS RJ2 48 yJ2_length_9d52b wsJ2_length_9d52b) := goodIn_app (goodIn_of _ (by decide +kernel)) ggJ2_getChar_3b067_J2_length_9d52b
theorem dJ2_getChar_3b067_0 : decode cJ2_getChar_3b067 0 = .ok (.getstatic 44, 3) := by decide +kernel
theorem dJ2_getChar_3b067_3 : decode cJ2_getChar_3b067 3 = .ok (.ifCond .ne 25, 3) := by decide +kernel
theorem dJ2_getChar_3b067_6 : decode cJ2_getChar_3b067 6 = .ok (.iload_n 1, 1) := by decide +kernel
theorem dJ2_getChar_3b067_7 : decode cJ2_getChar_3b067 7 = .ok (.ifCond .lt 11, 3) := by decide +kernel
theorem dJ2_getChar_3b067_10 : decode cJ2_getChar_3b067 10 = .ok (.iload_n 1, 1) := by decide +kernel
theorem dJ2_getChar_3b067_11 : decode cJ2_getChar_3b067 11 = .ok (.aload_n 0, 1) := by decide +kernel
theorem dJ2_getChar_3b067_12 : decode cJ2_getChar_3b067 12 = .ok (.invokestatic 48, 3) := by decide +kernel
theorem dJ2_getChar_3b067_15 : decode cJ2_getChar_3b067 15 = .ok (.if_icmp .lt 13, 3) := by decide +kernel
theorem dJ2_getChar_3b067_18 : decode cJ2_getChar_3b067 18 = .ok (.new 52, 3) := by decide +kernel
theorem dJ2_getChar_3b067_21 : decode cJ2_getChar_3b067 21 = .ok (.dup, 1) := by decide +kernel
theorem dJ2_getChar_3b067_22 : decode cJ2_getChar_3b067 22 = .ok (.ldc 54, 2) := by decide +kernel
theorem dJ2_getChar_3b067_24 : decode cJ2_getChar_3b067 24 = .ok (.invokespecial 56, 3) := by decide +kernel
theorem dJ2_getChar_3b067_27 : decode cJ2_getChar_3b067 27 = .ok (.athrow, 1) := by decide +kernel
theorem dJ2_getChar_3b067_28 : decode cJ2_getChar_3b067 28 = .ok (.iload_n 1, 1) := by decide +kernel
theorem dJ2_getChar_3b067_29 : decode cJ2_getChar_3b067 29 = .ok (.iconst 1, 1) := by decide +kernel
theorem dJ2_getChar_3b067_30 : decode cJ2_getChar_3b067 30 = .ok (.ishl, 1) := by decide +kernel
theorem dJ2_getChar_3b067_31 : decode cJ2_getChar_3b067 31 = .ok (.istore_n 1, 1) := by decide +kernel
theorem dJ2_getChar_3b067_32 : decode cJ2_getChar_3b067 32 = .ok (.aload_n 0, 1) := by decide +kernel
theorem dJ2_getChar_3b067_33 : decode cJ2_getChar_3b067 33 = .ok (.iload_n 1, 1) := by decide +kernel
theorem dJ2_getChar_3b067_34 : decode cJ2_getChar_3b067 34 = .ok (.iinc 1 1, 3) := by decide +kernel
theorem dJ2_getChar_3b067_37 : decode cJ2_getChar_3b067 37 = .ok (.baload, 1) := by decide +kernel
theorem dJ2_getChar_3b067_38 : decode cJ2_getChar_3b067 38 = .ok (.sipush 255, 3) := by decide +kernel
theorem dJ2_getChar_3b067_41 : decode cJ2_getChar_3b067 41 = .ok (.iand, 1) := by decide +kernel
theorem dJ2_getChar_3b067_42 : decode cJ2_getChar_3b067 42 = .ok (.getstatic 59, 3) := by decide +kernel
theorem dJ2_getChar_3b067_45 : decode cJ2_getChar_3b067 45 = .ok (.ishl, 1) := by decide +kernel
theorem dJ2_getChar_3b067_46 : decode cJ2_getChar_3b067 46 = .ok (.aload_n 0, 1) := by decide +kernel
theorem dJ2_getChar_3b067_47 : decode cJ2_getChar_3b067 47 = .ok (.iload_n 1, 1) := by decide +kernel
theorem dJ2_getChar_3b067_48 : decode cJ2_getChar_3b067 48 = .ok (.baload, 1) := by decide +kernel
theorem dJ2_getChar_3b067_49 : decode cJ2_getChar_3b067 49 = .ok (.sipush 255, 3) := by decide +kernel
theorem dJ2_getChar_3b067_52 : decode cJ2_getChar_3b067 52 = .ok (.iand, 1) := by decide +kernel
theorem dJ2_getChar_3b067_53 : decode cJ2_getChar_3b067 53 = .ok (.getstatic 63, 3) := by decide +kernel
theorem dJ2_getChar_3b067_56 : decode cJ2_getChar_3b067 56 = .ok (.ishl, 1) := by decide +kernel
theorem dJ2_getChar_3b067_57 : decode cJ2_getChar_3b067 57 = .ok (.ior, 1) := by decide +kernel
theorem dJ2_getChar_3b067_58 : decode cJ2_getChar_3b067 58 = .ok (.i2c, 1) := by decide +kernel
theorem dJ2_getChar_3b067_59 : decode cJ2_getChar_3b067 59 = .ok (.ireturn, 1) := by decide +kernel
theorem dJ2_length_9d52b_0 : decode cJ2_length_9d52b 0 = .ok (.aload_n 0, 1) := by decide +kernel
theorem dJ2_length_9d52b_1 : decode cJ2_length_9d52b 1 = .ok (.arraylength, 1) := by decide +kernel
theorem dJ2_length_9d52b_2 : decode cJ2_length_9d52b 2 = .ok (.iconst 1, 1) := by decide +kernel
theorem dJ2_length_9d52b_3 : decode cJ2_length_9d52b 3 = .ok (.ishr, 1) := by decide +kernel
theorem dJ2_length_9d52b_4 : decode cJ2_length_9d52b 4 = .ok (.ireturn, 1) := by decide +kernel
set_option maxRecDepth 20000 in
theorem ggJ2_charAt_3b067_J2_checkIndex_2214a : GoodIn wsJ2_charAt_3b067 wsJ2_checkIndex_2214a := goodIn_r _ [4, 5, 6, 3, 7, 8, 9, 10, 11, 12, 13, 14, 15, 16] (by decide +kernel) (by decide +kernel)
set_option maxRecDepth 20000 in
theorem gJ2_charAt_3b067_J2_checkIndex_2214a : GoodIn wsJ2_charAt_3b067 (va_wsS RJ2 67 yJ2_checkIndex_2214a wsJ2_checkIndex_2214a) := goodIn_app (goodIn_of _ (by decide +kernel)) ggJ2_charAt_3b067_J2_checkIndex_2214a
set_option maxRecDepth 20000 in
theorem ggJ2_charAt_3b067_J2_getChar_3b067 : GoodIn wsJ2_charAt_3b067 wsJ2_getChar_3b067 := goodIn_r _ [19, 20, 21, 22, 5, 6, 3, 7] (by decide +kernel) (by decide +kernel)
set_option maxRecDepth 20000 in
theorem gJ2_charAt_3b067_J2_getChar_3b067 : GoodIn wsJ2_charAt_3b067 (va_wsS RJ2 71 yJ2_getChar_3b067 wsJ2_getChar_3b067) := goodIn_app (goodIn_of _ (by decide +kernel)) ggJ2_charAt_3b067_J2_getChar_3b067
theorem dJ2_charAt_3b067_0 : decode cJ2_charAt_3b067 0 = .ok (.iload_n 1, 1) := by decide +kernel
theorem dJ2_charAt_3b067_1 : decode cJ2_charAt_3b067 1 = .ok (.aload_n 0, 1) := by decide +kernel
theorem dJ2_charAt_3b067_2 : decode cJ2_charAt_3b067 2 = .ok (.invokestatic 67, 3) := by decide +kernel
theorem dJ2_charAt_3b067_5 : decode cJ2_charAt_3b067 5 = .ok (.aload_n 0, 1) := by decide +kernel
theorem dJ2_charAt_3b067_6 : decode cJ2_charAt_3b067 6 = .ok (.iload_n 1, 1) := by decide +kernel
theorem dJ2_charAt_3b067_7 : decode cJ2_charAt_3b067 7 = .ok (.invokestatic 71, 3) := by decide +kernel
theorem dJ2_charAt_3b067_10 : decode cJ2_charAt_3b067 10 = .ok (.ireturn, 1) := by decide +kernel
set_option maxRecDepth 20000 in
theorem ggJ2_checkIndex_2214a_J2_length_9d52b : GoodIn wsJ2_checkIndex_2214a wsJ2_length_9d52b := goodIn_r _ [4] (by decide +kernel) (by decide +kernel)
set_option maxRecDepth 20000 in
theorem gJ2_checkIndex_2214a_J2_length_9d52b : GoodIn wsJ2_checkIndex_2214a (va_wsS RJ2 48 yJ2_length_9d52b wsJ2_length_9d52b) := goodIn_app (goodIn_of _ (by decide +kernel)) ggJ2_checkIndex_2214a_J2_length_9d52b
set_option maxRecDepth 20000 in
theorem ggJ2_checkIndex_2214a_J0_checkIndex_df160 : GoodIn wsJ2_checkIndex_2214a wsJ0_checkIndex_df160 := goodIn_r _ [8, 9, 10, 11, 12, 13] (by decide +kernel) (by decide +kernel)
set_option maxRecDepth 20000 in
theorem gJ2_checkIndex_2214a_J0_checkIndex_df160 : GoodIn wsJ2_checkIndex_2214a (va_wsS RJ2 414 yJ0_checkIndex_df160 wsJ0_checkIndex_df160) := goodIn_app (goodIn_of _ (by decide +kernel)) ggJ2_checkIndex_2214a_J0_checkIndex_df160
theorem dJ2_checkIndex_2214a_0 : decode cJ2_checkIndex_2214a 0 = .ok (.iload_n 0, 1) := by decide +kernel
theorem dJ2_checkIndex_2214a_1 : decode cJ2_checkIndex_2214a 1 = .ok (.aload_n 1, 1) := by decide +kernel
theorem dJ2_checkIndex_2214a_2 : decode cJ2_checkIndex_2214a 2 = .ok (.invokestatic 48, 3) := by decide +kernel
theorem dJ2_checkIndex_2214a_5 : decode cJ2_checkIndex_2214a 5 = .ok (.invokestatic 414, 3) := by decide +kernel
theorem dJ2_checkIndex_2214a_8 : decode cJ2_checkIndex_2214a 8 = .ok (.return_, 1) := by decide +kernel
theorem dJ3_checkIndex_8e157_0 : decode cJ3_checkIndex_8e157 0 = .ok (.iload_n 0, 1) := by decide +kernel
theorem dJ3_checkIndex_8e157_1 : decode cJ3_checkIndex_8e157 1 = .ok (.ifCond .lt 8, 3) := by decide +kernel
theorem dJ3_checkIndex_8e157_4 : decode cJ3_checkIndex_8e157 4 = .ok (.iload_n 0, 1) := by decide +kernel
theorem dJ3_checkIndex_8e157_5 : decode cJ3_checkIndex_8e157 5 = .ok (.iload_n 1, 1) := by decide +kernel
theorem dJ3_checkIndex_8e157_6 : decode cJ3_checkIndex_8e157 6 = .ok (.if_icmp .lt 10, 3) := by decide +kernel
theorem dJ3_checkIndex_8e157_9 : decode cJ3_checkIndex_8e157 9 = .ok (.aload_n 2, 1) := by decide +kernel
theorem dJ3_checkIndex_8e157_10 : decode cJ3_checkIndex_8e157 10 = .ok (.iload_n 0, 1) := by decide +kernel
theorem dJ3_checkIndex_8e157_11 : decode cJ3_checkIndex_8e157 11 = .ok (.iload_n 1, 1) := by decide +kernel
theorem dJ3_checkIndex_8e157_12 : decode cJ3_checkIndex_8e157 12 = .ok (.invokestatic 95, 3) := by decide +kernel
theorem dJ3_checkIndex_8e157_15 : decode cJ3_checkIndex_8e157 15 = .ok (.athrow, 1) := by decide +kernel
theorem dJ3_checkIndex_8e157_16 : decode cJ3_checkIndex_8e157 16 = .ok (.iload_n 0, 1) := by decide +kernel
theorem dJ3_checkIndex_8e157_17 : decode cJ3_checkIndex_8e157 17 = .ok (.ireturn, 1) := by decide +kernel
end
section
/-! ===== base: pure words for walked methods, and rows that pack a start, an end and a call ===== -/
def q_let {α β : Type} (e : α) (k : α → β) : β := k e
def q_grd {β : Type} (i : Int32) (n : Nat) (k : Option β) : Option β := if i < 0 ∨ n ≤ i.toNatClampNeg then none else k
def q_nz {β : Type} (d : Int32) (k : Option β) : Option β := if d = 0 then none else k
def q_gb {β : Type} (v : Int32) (k : Option β) : Option β := if v = 0 ∨ v = 1 then k else none
def q_bd {α β : Type} (x : Option α) (k : α → Option β) : Option β := match x with
  | none => none
  | some a => k a
def q_bd2 {α β γ : Type} (x : Option (α × β)) (k : α → β → Option γ) : Option γ := q_bd x (fun a => k a.1 a.2)
def q_bd3 {α β γ δ : Type} (x : Option (α × β × γ)) (k : α → β → γ → Option δ) : Option δ := q_bd x (fun a => k a.1 a.2.1 a.2.2)
def q_bd4 {α β γ δ ε : Type} (x : Option (α × β × γ × δ)) (k : α → β → γ → δ → Option ε) : Option ε := q_bd x (fun a => k a.1 a.2.1 a.2.2.1 a.2.2.2)
def q_bd5 {α β γ δ ε ζ : Type} (x : Option (α × β × γ × δ × ε)) (k : α → β → γ → δ → ε → Option ζ) : Option ζ := q_bd x (fun a => k a.1 a.2.1 a.2.2.1 a.2.2.2.1 a.2.2.2.2)
def q_bd6 {α β γ δ ε ζ η : Type} (x : Option (α × β × γ × δ × ε × ζ)) (k : α → β → γ → δ → ε → ζ → Option η) : Option η := q_bd x (fun a => k a.1 a.2.1 a.2.2.1 a.2.2.2.1 a.2.2.2.2.1 a.2.2.2.2.2)
theorem q_let_at {α β : Type} {x e : α} {k : α → Option β} {r : β} (ex : x = e) (h : q_let e k = some r) : k x = some r := by subst ex; exact h
theorem q_let_ok {α β : Type} {e : α} {k : α → Option β} {r : β} (h : q_let e k = some r) : ∃ x, x = e ∧ k x = some r := ⟨e, rfl, h⟩
theorem q_grd_ok {β : Type} {i : Int32} {n : Nat} {k : Option β} {r : β} (h : q_grd i n k = some r) : vp_in i n ∧ k = some r := by
  unfold q_grd at h
  by_cases c : i < 0 ∨ n ≤ i.toNatClampNeg
  · rw [if_pos c] at h; cases h
  · rw [if_neg c] at h; exact ⟨c, h⟩
theorem q_nz_ok {β : Type} {d : Int32} {k : Option β} {r : β} (h : q_nz d k = some r) : ¬ d = 0 ∧ k = some r := by
  unfold q_nz at h
  by_cases c : d = 0
  · rw [if_pos c] at h; cases h
  · rw [if_neg c] at h; exact ⟨c, h⟩
theorem q_gb_ok {β : Type} {v : Int32} {k : Option β} {r : β} (h : q_gb v k = some r) : (v = 0 ∨ v = 1) ∧ k = some r := by
  unfold q_gb at h
  by_cases c : v = 0 ∨ v = 1
  · rw [if_pos c] at h; exact ⟨c, h⟩
  · rw [if_neg c] at h; cases h
theorem q_gb_nar {v : Int32} (h : v = 0 ∨ v = 1) : narrow .boolean (.int v) = .int v := by
  rcases h with rfl | rfl <;> rfl
theorem q_gb_fit {v : Int32} (h : v = 0 ∨ v = 1) : fits .boolean (.int v) = true := by
  rcases h with rfl | rfl <;> rfl
theorem q_bd_ok {α β : Type} {x : Option α} {k : α → Option β} {r : β} (h : q_bd x k = some r) : ∃ a, x = some a ∧ k a = some r := by
  cases x with
  | none => cases h
  | some a => exact ⟨a, rfl, h⟩
theorem q_bd2_ok {α β γ : Type} {x : Option (α × β)} {k : α → β → Option γ} {r : γ} (h : q_bd2 x k = some r) : ∃ a b, x = some (a, b) ∧ k a b = some r := by
  obtain ⟨⟨a, b⟩, h1, h2⟩ := q_bd_ok h
  exact ⟨a, b, h1, h2⟩
theorem q_bd3_ok {α β γ δ : Type} {x : Option (α × β × γ)} {k : α → β → γ → Option δ} {r : δ} (h : q_bd3 x k = some r) : ∃ a b c, x = some (a, b, c) ∧ k a b c = some r := by
  obtain ⟨⟨a, b, c⟩, h1, h2⟩ := q_bd_ok h
  exact ⟨a, b, c, h1, h2⟩
theorem q_bd4_ok {α β γ δ ε : Type} {x : Option (α × β × γ × δ)} {k : α → β → γ → δ → Option ε} {r : ε} (h : q_bd4 x k = some r) : ∃ a b c d, x = some (a, b, c, d) ∧ k a b c d = some r := by
  obtain ⟨⟨a, b, c, d⟩, h1, h2⟩ := q_bd_ok h
  exact ⟨a, b, c, d, h1, h2⟩
theorem q_bd5_ok {α β γ δ ε ζ : Type} {x : Option (α × β × γ × δ × ε)} {k : α → β → γ → δ → ε → Option ζ} {r : ζ} (h : q_bd5 x k = some r) : ∃ a b c d e, x = some (a, b, c, d, e) ∧ k a b c d e = some r := by
  obtain ⟨⟨a, b, c, d, e⟩, h1, h2⟩ := q_bd_ok h
  exact ⟨a, b, c, d, e, h1, h2⟩
theorem q_bd6_ok {α β γ δ ε ζ η : Type} {x : Option (α × β × γ × δ × ε × ζ)} {k : α → β → γ → δ → ε → ζ → Option η} {r : η} (h : q_bd6 x k = some r) : ∃ a b c d e f, x = some (a, b, c, d, e, f) ∧ k a b c d e f = some r := by
  obtain ⟨⟨a, b, c, d, e, f⟩, h1, h2⟩ := q_bd_ok h
  exact ⟨a, b, c, d, e, f, h1, h2⟩
theorem q_t {β : Type} {c : Prop} [Decidable c] {a b : Option β} {r : β} (hc : c) (h : (if c then a else b) = some r) : a = some r := by rw [if_pos hc] at h; exact h
theorem q_f {β : Type} {c : Prop} [Decidable c] {a b : Option β} {r : β} (hc : ¬ c) (h : (if c then a else b) = some r) : b = some r := by rw [if_neg hc] at h; exact h
def q_up (F : Nat → Nat → Int32) (j i : Nat) (v : Int32) : Nat → Nat → Int32 := fun a => if a = j then upd (F j) i v else F a
def q_upL (L : Nat → Nat → Int64) (j i : Nat) (v : Int64) : Nat → Nat → Int64 := fun a => if a = j then vp_updL (L j) i v else L a
/-! statics and String constants -/
def kab : Nat → Int32 := fun j => ([-1, 0, 0, 0, 1, 2] : List Int32).getD j 0
def nmsL : List Int32 := [116, 104, 105, 110, 103, 0, 0, 119, 97, 115, 104, 0, 0, 0, 114, 105, 100, 101, 114, 0, 0, 103, 117, 101, 115, 116, 0, 0, 115, 104, 101, 101, 116, 0, 0, 116, 104, 105, 101, 102, 0, 0, 111, 117, 116, 0, 0, 0, 0, 119, 101, 116, 0, 0, 0, 0, 103, 111, 97, 108, 0, 0, 0, 98, 101, 97, 109, 0, 0, 0, 115, 112, 101, 101, 100, 0, 0, 116, 104, 105, 99, 107, 0, 0]
def nms : Nat → Int32 := fun j => nmsL.getD j 0
def strLen : List Nat := [5, 4, 5, 5, 5, 5, 4, 5, 5, 3, 3, 4, 0]
def strByt : List (List Int32) := [[116, 104, 105, 110, 103], [119, 97, 115, 104], [114, 105, 100, 101, 114], [103, 117, 101, 115, 116], [115, 104, 101, 101, 116], [116, 104, 105, 101, 102], [98, 101, 97, 109], [115, 112, 101, 101, 100], [116, 104, 105, 99, 107], [111, 117, 116], [119, 101, 116], [103, 111, 97, 108], []]
def strIx : Nat → Nat := fun i => ([122, 124, 126, 128, 130, 132, 134, 136, 137, 138, 140, 142, 144] : List Nat).getD i 0
def strTx : Nat → String := fun i => (["thing", "wash", "rider", "guest", "sheet", "thief", "beam", "speed", "thick", "out", "wet", "goal", ""] : List String).getD i ""
def ZZ (t : Nat → Nat) (A : Nat → Prop) (U : State) (H : Heap) : Prop :=
  (va_Z "BeamSeats" "KIND_ABOVE" "[I" (.ref (t 0)) A U H ∧ va_T .int (t 0) 6 (fun j => .int (kab j)) A U H) ∧
  (va_Z "BeamSeatsModel" "NAMES" "[I" (.ref (t 1)) A U H ∧ va_T .int (t 1) 84 (fun j => .int (nms j)) A U H) ∧
  va_Z "java/lang/String" "COMPACT_STRINGS" "Z" (.int 1) A U H ∧
  va_Zq "jdk/internal/util/Preconditions" "SIOOBE_FORMATTER" "Ljava/util/function/BiFunction;" A U H ∧
  vk_S 13 strLen strByt (fun i => t (2 + i)) (fun i => t (20 + i)) A U H ∧
  (∀ i : Nat, i < 13 → vk_R "BeamSeats$Tape" (strIx i) (strTx i) (t (2 + i)) U)
theorem ZZ.kept {t : Nat → Nat} {A : Nat → Prop} {U : State} {H H1 : Heap} (h : ZZ t A U H) (hq : ∀ a : Nat, a < H.size → ¬ A a → H1[a]? = H[a]?) : ZZ t A U H1 := by
  obtain ⟨⟨a1, a2⟩, ⟨b1, b2⟩, c1, d1, e1, f1⟩ := h
  exact ⟨⟨a1.kept hq, a2.kept hq⟩, ⟨b1.kept hq, b2.kept hq⟩, c1.kept hq, d1.kept hq, e1.kept hq, f1⟩
theorem ZZ.narrow {t : Nat → Nat} {A B : Nat → Prop} {U : State} {H : Heap} (h : ZZ t A U H) (hAB : ∀ q, B q → A q) : ZZ t B U H := by
  obtain ⟨⟨a1, a2⟩, ⟨b1, b2⟩, c1, d1, e1, f1⟩ := h
  exact ⟨⟨a1.narrow hAB, a2.narrow hAB⟩, ⟨b1.narrow hAB, b2.narrow hAB⟩, c1.narrow hAB, d1.narrow hAB, e1.narrow hAB, f1⟩
theorem ZZ.warm {t : Nat → Nat} {A : Nat → Prop} {u U : State} {H : Heap} (hW : u.WarmedH U.vm) (h : ZZ t A u H) : ZZ t A U H := by
  have hvm := hW.alike
  obtain ⟨⟨a1, a2⟩, ⟨b1, b2⟩, c1, d1, e1, f1⟩ := h
  exact ⟨⟨a1.moved hvm, a2.moved hvm⟩, ⟨b1.moved hvm, b2.moved hvm⟩, c1.moved hvm, d1.moved hvm, e1.moved hvm, fun i hi => (f1 i hi).warm hW⟩
theorem ZZ.same {t : Nat → Nat} {A : Nat → Prop} {u U : State} {H : Heap} (hv : U.vm = u.vm) (h : ZZ t A u H) : ZZ t A U H := by
  have hvm : u.vm.Alike U.vm := by rw [hv]; exact Vm.Alike.refl _
  obtain ⟨⟨a1, a2⟩, ⟨b1, b2⟩, c1, d1, e1, f1⟩ := h
  exact ⟨⟨a1.moved hvm, a2.moved hvm⟩, ⟨b1.moved hvm, b2.moved hvm⟩, c1.moved hvm, d1.moved hvm, e1.moved hvm, fun i hi => (f1 i hi).same hv⟩
/-! a contract's start and end: addresses by q, classes of arrays by y (int, byte, long, Sheet), statics by t -/
def TYs (y : Nat → ClassId) : List (ClassId × FieldType) := [(y 0, .int), (y 1, .byte), (y 2, .long), (y 3, .object RX1)]
def pPre (D : va_G) (y : Nat → ClassId) (t : Nat → Nat) (av : List Value) (w : va_W) (sz : Nat) : Array Value → State → Prop :=
  va_Pc av (fun U => U.heap.size = sz ∧ va_P D vwCl w U.heap ∧ va_K D vwCl (TYs y) U ∧ ZZ t (va_A w sz) U U.heap ∧ va_D (fun _ => True) w)
def pB (D : va_G) (y : Nat → ClassId) (w' : va_W) (A : Nat → Prop) : Unit → State → Prop := fun _ u => va_P D vwCl w' u.heap ∧ va_K D vwCl (TYs y) u ∧ va_D A w'
def pQi (D : va_G) (y : Nat → ClassId) (r : Int32) (w' : va_W) (A : Nat → Prop) : Array Value → State → Outcome → State → Prop := va_Qi (fun r' (_ : Unit) => r' = r) (pB D y w' A) A
def pQl (D : va_G) (y : Nat → ClassId) (r : Int64) (w' : va_W) (A : Nat → Prop) : Array Value → State → Outcome → State → Prop := va_Ql (fun r' (_ : Unit) => r' = r) (pB D y w' A) A
def pQv (D : va_G) (y : Nat → ClassId) (w' : va_W) (A : Nat → Prop) : Array Value → State → Outcome → State → Prop := va_Qv (fun (_ : Unit) => True) (pB D y w' A) A
def pQq (D : va_G) (y : Nat → ClassId) (r : Option Nat) (w' : va_W) (A : Nat → Prop) : Array Value → State → Outcome → State → Prop := va_Qq (fun r' (_ : Unit) => r' = r) (pB D y w' A) A
theorem q_blind {D : va_G} {y : Nat → ClassId} {t : Nat → Nat} {av : List Value} {w : va_W} {sz : Nat} : FrameBlind (pPre D y t av w sz) := by
  intro a U g mk h
  obtain ⟨h1, h2, h3, h4, h5, h6⟩ := h
  exact ⟨h1, h2, h3, va_K.moved (u := U) (U := U.calling g mk a) (Vm.Alike.refl U.vm) h4, h5.same rfl, h6⟩
theorem q_start {l : Launch} {y0 : MethodName} {wsC ws' : List Cond} {rm : Room} {cc : ByteArray} {maxL : Nat} {ret : Option FieldType} {D : va_G} {y : Nat → ClassId} {t : Nat → Nat} {av : List Value} {w : va_W} {sz : Nat} {Qc : (Nat → Prop) → Array Value → State → Outcome → State → Prop} {mc ms : Nat} (hy : plainName y0.cls = true) (hw : wsC = Cond.code y0 cc maxL ret :: ws') (hn : (lg_sl av).length ≤ maxL)
    (k : ∀ (p : Program) (e : Env) (s : State) (m : MethodId) (below : List Frame) (meth : Method) (c : Code) (A : Nat → Prop) (ls : Array Slot), p.tables.exec = Jvm.exec → c.code = cc → meth.sig.returnType = ret → (∀ x ∈ wsC, x.before av.toArray s = true) → s.vm.findClass y0.cls = some m.cls → meth.locks = false → meth.name = y0.name → c.maxLocals = maxL → va_P D vwCl w s.heap → va_K D vwCl (TYs y) s → ZZ t A s s.heap → va_D A w → (∀ q : Nat, s.heap.size ≤ q → A q) → va_S A s.heap s.heap [] → lv_has ls maxL (lv_args 0 av) → W p l e rm s m av.toArray below meth c s.heap [] 0 0 (MQ below (Qc A) av.toArray s mc ms A) (F0 m 0 ls [])) :
    Met l y0 wsC rm (pPre D y t av w sz) (Qc (va_A w sz)) mc ms (va_A w sz) := by
  refine Met.ofW (cc := cc) (maxL := maxL) (ret := ret) hy hw ?_
  intro p e s m args below meth c s₁ B hml hv
  obtain ⟨rfl, hsz, hP, hK, hZ, hD0⟩ := hv
  subst hsz
  have hl := lv_entry av hn
  rw [lg_entry_eq]
  exact k p e s m below meth c (va_A w s.heap.size) _ B.exec B.bytes B.returns (atoms_spec (ws := wsC) B.pre) (findClass_of_methodNamed B.named) B.notSynchronized (name_of_methodNamed B.named B.method).1 hml hP hK hZ hD0.self (fun q h => Or.inr h) va_S.rf hl
section QE
variable {p : Program} {l : Launch} {e : Env} {R : Room} {s : State} {m : MethodId} {args : Array Value} {below : List Frame} {meth : Method} {c : Code} {H : Heap} {locs : List Loc} {cells slots : Nat} {cc : ByteArray} {pc : Nat} {ls : Array Slot} {D : va_G} {y : Nat → ClassId} {w w' : va_W} {A : Nat → Prop}
theorem q_iret {v r : Int32} (hx : p.tables.exec = Jvm.exec) (hb : c.code = cc) (hr : meth.sig.returnType = some .int) (hlocks : meth.locks = false) (hK : va_K D vwCl (TYs y) s) (hP : va_P D vwCl w H) (hD : va_D A w) (hS : va_S A s.heap H locs) (hdg : decode cc pc = .ok (.ireturn, 1)) (hv : v = r) (hw : w = w') : W p l e R s m args below meth c H locs cells slots (MQ below (pQi D y r w' A) args s cells slots A) (F0 m pc ls [.int v]) := by
  subst hv; subst hw
  exact W.iret hx hb hr (fun u ht hW => ⟨⟨v, (), rfl, rfl, by rw [ht]; exact hP, va_K.moved hW.alike hK, hD⟩, hS.F ht⟩) hS.2.2 hdg hlocks
theorem q_zret {ty : FieldType} {v r : Int32} (hx : p.tables.exec = Jvm.exec) (hb : c.code = cc) (hr : meth.sig.returnType = some ty) (hlocks : meth.locks = false) (hK : va_K D vwCl (TYs y) s) (hP : va_P D vwCl w H) (hD : va_D A w) (hS : va_S A s.heap H locs) (hdg : decode cc pc = .ok (.ireturn, 1)) (hn : narrow ty (.int v) = .int v) (hv : v = r) (hw : w = w') : W p l e R s m args below meth c H locs cells slots (MQ below (pQi D y r w' A) args s cells slots A) (F0 m pc ls [.int v]) := by
  subst hv; subst hw
  exact W.zret hx hb hr hn (fun u ht hW => ⟨⟨v, (), rfl, rfl, by rw [ht]; exact hP, va_K.moved hW.alike hK, hD⟩, hS.F ht⟩) hS.2.2 hdg hlocks
theorem q_lret {v r : Int64} (hx : p.tables.exec = Jvm.exec) (hb : c.code = cc) (hr : meth.sig.returnType = some .long) (hlocks : meth.locks = false) (hK : va_K D vwCl (TYs y) s) (hP : va_P D vwCl w H) (hD : va_D A w) (hS : va_S A s.heap H locs) (hdg : decode cc pc = .ok (.lreturn, 1)) (hv : v = r) (hw : w = w') : W p l e R s m args below meth c H locs cells slots (MQ below (pQl D y r w' A) args s cells slots A) (F0 m pc ls [.long v]) := by
  subst hv; subst hw
  exact W.lret hx hb hr (fun u ht hW => ⟨⟨v, (), rfl, rfl, by rw [ht]; exact hP, va_K.moved hW.alike hK, hD⟩, hS.F ht⟩) hS.2.2 hdg hlocks
theorem q_vret (hx : p.tables.exec = Jvm.exec) (hb : c.code = cc) (hr : meth.sig.returnType = none) (hlocks : meth.locks = false) (hK : va_K D vwCl (TYs y) s) (hP : va_P D vwCl w H) (hD : va_D A w) (hS : va_S A s.heap H locs) (hdg : decode cc pc = .ok (.return_, 1)) (hw : w = w') : W p l e R s m args below meth c H locs cells slots (MQ below (pQv D y w' A) args s cells slots A) (F0 m pc ls []) := by
  subst hw
  exact W.vret hx hb hr (fun u ht hW => ⟨⟨(), rfl, trivial, by rw [ht]; exact hP, va_K.moved hW.alike hK, hD⟩, hS.F ht⟩) hS.2.2 hdg hlocks
theorem q_aret {v r : Option Nat} {rt : FieldType} (hx : p.tables.exec = Jvm.exec) (hb : c.code = cc) (hr : meth.sig.returnType = some rt) (hrt : (∃ n, rt = .object n) ∨ ∃ t, rt = .array t) (hlocks : meth.locks = false) (hK : va_K D vwCl (TYs y) s) (hP : va_P D vwCl w H) (hD : va_D A w) (hS : va_S A s.heap H locs) (hdg : decode cc pc = .ok (.areturn, 1)) (hv : v = r) (hw : w = w') : W p l e R s m args below meth c H locs cells slots (MQ below (pQq D y r w' A) args s cells slots A) (F0 m pc ls [va_rf v]) := by
  subst hv; subst hw
  exact W.aret hx hb hr hrt (va_rf_or v) (fun u ht hW => ⟨⟨v, (), rfl, rfl, by rw [ht]; exact hP, va_K.moved hW.alike hK, hD⟩, hS.F ht⟩) hS.2.2 hdg hlocks
end QE
/-! a call: the callee's cells are at the places isC of the caller's world; they are set there behind it -/
def q_sets : va_W → List Nat → va_W → va_W
  | w, i :: is, c :: cs => q_sets (w.set i c) is cs
  | w, _, _ => w
theorem q_sets_ok {A0 : Nat → Prop} {D : va_G} {cl : List vw_C} {H1 : Heap} : ∀ (isC : List Nat) (ws wc wc' : va_W), isC.Nodup → isC.map (fun i => ws[i]?) = wc.map some → wc'.map (·.1) = wc.map (·.1) → va_D A0 ws → va_P D cl wc' H1 → (∀ (k : Nat) (q : Nat × va_E), ws[k]? = some q → k ∉ isC → va_at D cl q H1) → va_P D cl (q_sets ws isC wc') H1 ∧ va_D A0 (q_sets ws isC wc') := by
  intro isC
  induction isC with
  | nil =>
    intro ws wc wc' _ hC had hD _ hk
    have e : q_sets ws [] wc' = ws := by cases wc' <;> rfl
    rw [e]
    exact ⟨fun k q hq => hk k q hq List.not_mem_nil, hD⟩
  | cons i is ih =>
    intro ws wc wc' hn hC had hD hP1 hk
    cases wc with
    | nil => cases hC
    | cons c cs =>
      cases wc' with
      | nil => cases had
      | cons c' cs' =>
        rw [List.map_cons, List.map_cons] at hC had
        have hC1 : ws[i]? = some c := (List.cons.inj hC).1
        have hC2 := (List.cons.inj hC).2
        have ha1 : c'.1 = c.1 := (List.cons.inj had).1
        have ha2 := (List.cons.inj had).2
        have hni : i ∉ is := (List.nodup_cons.mp hn).1
        have hil : i < ws.length := (List.getElem?_eq_some_iff.mp hC1).1
        have hset : ∀ k : Nat, (ws.set i c')[k]? = if k = i then some c' else ws[k]? := by
          intro k
          rw [List.getElem?_set]
          by_cases hki : i = k
          · subst hki; simp [hil]
          · have h2 : ¬ k = i := fun z => hki z.symm
            simp [hki, h2]
        have hD' : va_D A0 (ws.set i c') := by
          obtain ⟨ca, ce⟩ := c
          obtain ⟨ca', ce'⟩ := c'
          have ha1 : ca' = ca := ha1
          subst ha1
          exact hD.set hC1
        refine ih (ws.set i c') cs cs' (List.nodup_cons.mp hn).2 ?_ ha2 hD' (fun k q hq => hP1 (k + 1) q (by rw [List.getElem?_cons_succ]; exact hq)) ?_
        · rw [← hC2]
          apply List.map_congr_left
          intro j hj
          rw [hset j, if_neg (fun (z : j = i) => hni (by rw [← z]; exact hj))]
        · intro k q hq hki
          rw [hset k] at hq
          by_cases hk2 : k = i
          · rw [if_pos hk2] at hq
            cases hq
            exact hP1 0 c' rfl
          · rw [if_neg hk2] at hq
            exact hk k q hq (fun z => by rcases List.mem_cons.mp z with z | z; exact hk2 z; exact hki z)
theorem q_join {A0 : Nat → Prop} {D : va_G} {cl : List vw_C} {ws wc wc' : va_W} {H H1 : Heap} (hP : va_P D cl ws H) (hD : va_D A0 ws) (isC : List Nat) (hC : isC.map (fun i => ws[i]?) = wc.map some) (hn : isC.Nodup) (had : wc'.map (·.1) = wc.map (·.1)) (hk : ∀ q : Nat, q < H.size → ¬ va_A wc H.size q → H1[q]? = H[q]?) (hP1 : va_P D cl wc' H1) : va_P D cl (q_sets ws isC wc') H1 ∧ va_D A0 (q_sets ws isC wc') := by
  refine q_sets_ok isC ws wc wc' hn hC had hD hP1 (fun k q hq hki => ?_)
  have hat := hP k q hq
  refine hat.kept (hk q.1 hat.lt ?_)
  intro hz
  rcases hz with ⟨j, ej, hj⟩ | hz
  · have h1 : (isC.map (fun i => ws[i]?))[j]? = some (some (q.1, ej)) := by rw [hC, List.getElem?_map, hj]; rfl
    rw [List.getElem?_map] at h1
    cases hi : isC[j]? with
    | none => rw [hi] at h1; cases h1
    | some i =>
      rw [hi] at h1
      have h2 : ws[i]? = some (q.1, ej) := Option.some.inj h1
      have h3 : k = i := hD.1 k i q (q.1, ej) hq h2 rfl
      exact hki (h3 ▸ List.mem_of_getElem? hi)
  · exact absurd hat.lt (Nat.not_lt.mpr hz)
theorem q_nd_inj : ∀ (l : List Nat), l.Nodup → ∀ (i j a : Nat), l[i]? = some a → l[j]? = some a → i = j
  | [], _, i, j, a, h, _ => by simp at h
  | b :: l, hn, i, j, a, hi, hj => by
    have h1 := (List.nodup_cons.mp hn).1
    have h2 := (List.nodup_cons.mp hn).2
    cases i with
    | zero =>
      cases j with
      | zero => rfl
      | succ j =>
        rw [List.getElem?_cons_succ] at hj
        have e : b = a := Option.some.inj hi
        exact absurd (List.mem_of_getElem? hj) (e ▸ h1)
    | succ i =>
      rw [List.getElem?_cons_succ] at hi
      cases j with
      | zero =>
        have e : b = a := Option.some.inj hj
        exact absurd (List.mem_of_getElem? hi) (e ▸ h1)
      | succ j =>
        rw [List.getElem?_cons_succ] at hj
        rw [q_nd_inj l h2 i j a hi hj]
section QC
variable {p : Program} {l : Launch} {e : Env} {R : Room} {s : State} {m : MethodId} {args : Array Value} {below : List Frame} {meth : Method} {c : Code} {H : Heap} {locs : List Loc} {cells slots : Nat} {Q : State → Prop} {pc : Nat} {ls : Array Slot} {rest st0 : List Value} {a : Array Value} {D : va_G} {y : Nat → ClassId} {t : Nat → Nat} {w wc wc' : va_W} {A : Nat → Prop}
/-- the callee's start at the call -/
theorem q_pre {av : List Value} (hP : va_P D vwCl w H) (hK : va_K D vwCl (TYs y) s) (hZ : ZZ t A s s.heap) (hD : va_D A w) (hA : ∀ q : Nat, s.heap.size ≤ q → A q) (hS : va_S A s.heap H locs) (isC : List Nat) (hC : isC.map (fun i => w[i]?) = wc.map some) (hn : isC.Nodup) : ∀ U : State, U.heap = H → s.WarmedH U.vm → pPre D y t av wc H.size av.toArray U := by
  intro U hU hW
  have hF := va_free (wc := wc) hD hS hA isC hC
  have at' : ∀ (k : Nat) (q : Nat × va_E), wc[k]? = some q → ∃ i, isC[k]? = some i ∧ w[i]? = some q := by
    intro k q hq
    have h1 : (isC.map (fun i => w[i]?))[k]? = some (some q) := by rw [hC, List.getElem?_map, hq]; rfl
    rw [List.getElem?_map] at h1
    cases hi : isC[k]? with
    | none => rw [hi] at h1; cases h1
    | some i => rw [hi] at h1; exact ⟨i, rfl, Option.some.inj h1⟩
  refine ⟨rfl, by rw [hU], ?_, va_K.moved hW.alike hK, ?_, ?_, fun _ _ _ => trivial⟩
  · rw [hU]
    intro k q hq
    obtain ⟨i, -, h2⟩ := at' k q hq
    exact hP i q h2
  · rw [hU]
    exact ((hZ.kept hS.2.1).narrow hF).warm hW
  · intro i j p1 q1 hi hj he
    obtain ⟨i', h1, h2⟩ := at' i p1 hi
    obtain ⟨j', h3, h4⟩ := at' j q1 hj
    have h5 : i' = j' := hD.1 i' j' p1 q1 h2 h4 he
    subst h5
    exact q_nd_inj isC hn i j i' h1 h3
theorem q_ci {r : Int32} (hr : va_Run p l e R s m args below meth c H locs cells slots 0 0 (F0 m pc ls st0) rest (pQi D y r wc' (va_A wc H.size) a) (va_A wc H.size)) (hP : va_P D vwCl w H) (hD : va_D A w) (hA : ∀ q : Nat, s.heap.size ≤ q → A q) (hS : va_S A s.heap H locs) (isC : List Nat) (hC : isC.map (fun i => w[i]?) = wc.map some) (hn : isC.Nodup) (had : wc'.map (·.1) = wc.map (·.1))
    (kk : ∀ (H1 : Heap) (locs1 : List Loc), va_P D vwCl (q_sets w isC wc') H1 → va_D A (q_sets w isC wc') → va_S A s.heap H1 locs1 → W p l e R s m args below meth c H1 locs1 cells slots Q (F0 m (pc + 3) ls (.int r :: rest))) : W p l e R s m args below meth c H locs cells slots Q (F0 m pc ls st0) := by
  have hF := va_free (wc := wc) hD hS hA isC hC
  refine va_calli hr hS (fun q _ h => hF q h) hF (fun r1 u t1 H1 locs1 ht hvm hw hB hz1 hk1 hS1 => ?_)
  obtain ⟨hP1, -, -⟩ := hB
  rw [ht] at hP1
  have hj := q_join hP hD isC hC hn had hk1 hP1
  have hw : r1 = r := hw
  subst hw
  exact kk H1 locs1 hj.1 hj.2 hS1
theorem q_cl {r : Int64} (hr : va_Run p l e R s m args below meth c H locs cells slots 0 0 (F0 m pc ls st0) rest (pQl D y r wc' (va_A wc H.size) a) (va_A wc H.size)) (hP : va_P D vwCl w H) (hD : va_D A w) (hA : ∀ q : Nat, s.heap.size ≤ q → A q) (hS : va_S A s.heap H locs) (isC : List Nat) (hC : isC.map (fun i => w[i]?) = wc.map some) (hn : isC.Nodup) (had : wc'.map (·.1) = wc.map (·.1))
    (kk : ∀ (H1 : Heap) (locs1 : List Loc), va_P D vwCl (q_sets w isC wc') H1 → va_D A (q_sets w isC wc') → va_S A s.heap H1 locs1 → W p l e R s m args below meth c H1 locs1 cells slots Q (F0 m (pc + 3) ls (.long r :: rest))) : W p l e R s m args below meth c H locs cells slots Q (F0 m pc ls st0) := by
  have hF := va_free (wc := wc) hD hS hA isC hC
  refine va_calll hr hS (fun q _ h => hF q h) hF (fun r1 u t1 H1 locs1 ht hvm hw hB hz1 hk1 hS1 => ?_)
  obtain ⟨hP1, -, -⟩ := hB
  rw [ht] at hP1
  have hj := q_join hP hD isC hC hn had hk1 hP1
  have hw : r1 = r := hw
  subst hw
  exact kk H1 locs1 hj.1 hj.2 hS1
theorem q_cv (hr : va_Run p l e R s m args below meth c H locs cells slots 0 0 (F0 m pc ls st0) rest (pQv D y wc' (va_A wc H.size) a) (va_A wc H.size)) (hP : va_P D vwCl w H) (hD : va_D A w) (hA : ∀ q : Nat, s.heap.size ≤ q → A q) (hS : va_S A s.heap H locs) (isC : List Nat) (hC : isC.map (fun i => w[i]?) = wc.map some) (hn : isC.Nodup) (had : wc'.map (·.1) = wc.map (·.1))
    (kk : ∀ (H1 : Heap) (locs1 : List Loc), va_P D vwCl (q_sets w isC wc') H1 → va_D A (q_sets w isC wc') → va_S A s.heap H1 locs1 → W p l e R s m args below meth c H1 locs1 cells slots Q (F0 m (pc + 3) ls rest)) : W p l e R s m args below meth c H locs cells slots Q (F0 m pc ls st0) := by
  have hF := va_free (wc := wc) hD hS hA isC hC
  refine va_callv hr hS (fun q _ h => hF q h) hF (fun u t1 H1 locs1 ht hvm hw hB hz1 hk1 hS1 => ?_)
  obtain ⟨hP1, -, -⟩ := hB
  rw [ht] at hP1
  have hj := q_join hP hD isC hC hn had hk1 hP1
  exact kk H1 locs1 hj.1 hj.2 hS1
theorem q_cq {r : Option Nat} (hr : va_Run p l e R s m args below meth c H locs cells slots 0 0 (F0 m pc ls st0) rest (pQq D y r wc' (va_A wc H.size) a) (va_A wc H.size)) (hP : va_P D vwCl w H) (hD : va_D A w) (hA : ∀ q : Nat, s.heap.size ≤ q → A q) (hS : va_S A s.heap H locs) (isC : List Nat) (hC : isC.map (fun i => w[i]?) = wc.map some) (hn : isC.Nodup) (had : wc'.map (·.1) = wc.map (·.1))
    (kk : ∀ (H1 : Heap) (locs1 : List Loc), va_P D vwCl (q_sets w isC wc') H1 → va_D A (q_sets w isC wc') → va_S A s.heap H1 locs1 → W p l e R s m args below meth c H1 locs1 cells slots Q (F0 m (pc + 3) ls (va_rf r :: rest))) : W p l e R s m args below meth c H locs cells slots Q (F0 m pc ls st0) := by
  have hF := va_free (wc := wc) hD hS hA isC hC
  refine va_callq hr hS (fun q _ h => hF q h) hF (fun r1 u t1 H1 locs1 ht hvm hw hB hz1 hk1 hS1 => ?_)
  obtain ⟨hP1, -, -⟩ := hB
  rw [ht] at hP1
  have hj := q_join hP hD isC hC hn had hk1 hP1
  have hw : r1 = r := hw
  subst hw
  exact kk H1 locs1 hj.1 hj.2 hS1
end QC
/-! worlds -/
def wI (y : Nat → ClassId) (q : Nat → Nat) (F : Nat → Nat → Int32) : va_W := [(q 0, .inr (0, [.int (F 0 0), .int (F 0 1), .int (F 0 2), .int (F 0 3), .int (F 0 4), .int (F 0 5), .int (F 0 6), .ref (q 1), .ref (q 2), .ref (q 3), .ref (q 4), .ref (q 5), .ref (q 6)])), (q 1, .inl (y 0, 8, .inl (F 1))), (q 2, .inl (y 0, 8, .inl (F 2))), (q 3, .inl (y 0, 8, .inl (F 3))), (q 4, .inl (y 0, 8, .inl (F 4))), (q 5, .inl (y 0, 8, .inl (F 5))), (q 6, .inl (y 0, 8, .inl (F 6)))]
end
section
theorem kJ6_bitCount_0f7a4_0 : Cond.constant RJ6 265 (1431655765) ∈ wsJ6_bitCount_0f7a4 := List.mem_of_getElem? (i := 1) (by decide +kernel)
theorem kJ6_bitCount_0f7a4_1 : Cond.constant RJ6 266 (858993459) ∈ wsJ6_bitCount_0f7a4 := List.mem_of_getElem? (i := 2) (by decide +kernel)
theorem kJ6_bitCount_0f7a4_2 : Cond.constant RJ6 267 (252645135) ∈ wsJ6_bitCount_0f7a4 := List.mem_of_getElem? (i := 3) (by decide +kernel)
def f_J6_bitCount_0f7a4 (N : Nat) (p1 : Int32) : Option (Int32) :=
  q_let (p1 - (((p1.toUInt32 >>> ((1 : Int32).toUInt32 &&& Int32.toUInt32 31)).toInt32) &&& (1431655765 : Int32))) (fun x_1 =>
  q_let ((x_1 &&& (858993459 : Int32)) + (((x_1.toUInt32 >>> ((2 : Int32).toUInt32 &&& Int32.toUInt32 31)).toInt32) &&& (858993459 : Int32))) (fun x_2 =>
  q_let ((x_2 + ((x_2.toUInt32 >>> ((4 : Int32).toUInt32 &&& Int32.toUInt32 31)).toInt32)) &&& (252645135 : Int32)) (fun x_3 =>
  q_let (x_3 + ((x_3.toUInt32 >>> ((8 : Int32).toUInt32 &&& Int32.toUInt32 31)).toInt32)) (fun x_4 =>
  q_let (x_4 + ((x_4.toUInt32 >>> ((16 : Int32).toUInt32 &&& Int32.toUInt32 31)).toInt32)) (fun x_5 =>
  some (x_5 &&& (63 : Int32)))))))
set_option maxHeartbeats 4000000 in
set_option maxRecDepth 100000 in
theorem c_J6_bitCount_0f7a4 (l : Launch) (D : va_G) (y : Nat → ClassId) (t : Nat → Nat) (q : Nat → Nat) (sz N : Nat) (p1 : Int32) (res : Int32) (h : f_J6_bitCount_0f7a4 N p1 = some res) : Met l yJ6_bitCount_0f7a4 wsJ6_bitCount_0f7a4 ({ frames := 0, cells := 0, slots := 0, locals := 0 } : Room) (pPre D y t [.int p1] (([] : va_W)) sz) (pQi D y res (([] : va_W)) (va_A (([] : va_W)) sz)) 0 0 (va_A (([] : va_W)) sz) := by
  refine q_start (Qc := (fun A => pQi D y res (([] : va_W)) A)) (cc := cJ6_bitCount_0f7a4) (maxL := 1) (ret := (some .int)) (by decide) rfl (Nat.le_of_ble_eq_true rfl) ?_
  intro p e s m below meth c A ls hx hb hr hts hown hlocks hmn hml hP hK hZ hD hA hS hl
  have hl : lv_has ls 1 [(0, .int p1)] := hl
  have hown : s.vm.findClass RJ6 = some m.cls := hown
  unfold f_J6_bitCount_0f7a4 at h
  refine lv_iload_n hx hb dJ6_bitCount_0f7a4_0 rfl (lv_at hl 0 rfl) ?_
  refine lv_iload_n hx hb dJ6_bitCount_0f7a4_1 rfl (lv_at hl 0 rfl) ?_
  refine lv_iconst (v := 1) hx hb dJ6_bitCount_0f7a4_2 (by decide) ?_
  refine lv_iushr hx hb dJ6_bitCount_0f7a4_3 rfl ?_
  refine lv_ldcw (v := 1431655765) hx hb hown (hts _ kJ6_bitCount_0f7a4_0) dJ6_bitCount_0f7a4_4 ?_
  refine lv_iand hx hb dJ6_bitCount_0f7a4_7 ?_
  refine lv_isub hx hb dJ6_bitCount_0f7a4_8 ?_
  refine lv_topi (fun x_1 ex_1 => ?_)
  have h := q_let_at ex_1 h
  refine lv_istore_n (lv' := [(0, .int x_1)]) hx hb dJ6_bitCount_0f7a4_9 rfl hl (by decide) rfl (fun ls hl => ?_)
  refine lv_iload_n hx hb dJ6_bitCount_0f7a4_10 rfl (lv_at hl 0 rfl) ?_
  refine lv_ldcw (v := 858993459) hx hb hown (hts _ kJ6_bitCount_0f7a4_1) dJ6_bitCount_0f7a4_11 ?_
  refine lv_iand hx hb dJ6_bitCount_0f7a4_14 ?_
  refine lv_iload_n hx hb dJ6_bitCount_0f7a4_15 rfl (lv_at hl 0 rfl) ?_
  refine lv_iconst (v := 2) hx hb dJ6_bitCount_0f7a4_16 (by decide) ?_
  refine lv_iushr hx hb dJ6_bitCount_0f7a4_17 rfl ?_
  refine lv_ldcw (v := 858993459) hx hb hown (hts _ kJ6_bitCount_0f7a4_1) dJ6_bitCount_0f7a4_18 ?_
  refine lv_iand hx hb dJ6_bitCount_0f7a4_21 ?_
  refine lv_iadd hx hb dJ6_bitCount_0f7a4_22 ?_
  refine lv_topi (fun x_2 ex_2 => ?_)
  have h := q_let_at ex_2 h
  refine lv_istore_n (lv' := [(0, .int x_2)]) hx hb dJ6_bitCount_0f7a4_23 rfl hl (by decide) rfl (fun ls hl => ?_)
  refine lv_iload_n hx hb dJ6_bitCount_0f7a4_24 rfl (lv_at hl 0 rfl) ?_
  refine lv_iload_n hx hb dJ6_bitCount_0f7a4_25 rfl (lv_at hl 0 rfl) ?_
  refine lv_iconst (v := 4) hx hb dJ6_bitCount_0f7a4_26 (by decide) ?_
  refine lv_iushr hx hb dJ6_bitCount_0f7a4_27 rfl ?_
  refine lv_iadd hx hb dJ6_bitCount_0f7a4_28 ?_
  refine lv_ldcw (v := 252645135) hx hb hown (hts _ kJ6_bitCount_0f7a4_2) dJ6_bitCount_0f7a4_29 ?_
  refine lv_iand hx hb dJ6_bitCount_0f7a4_32 ?_
  refine lv_topi (fun x_3 ex_3 => ?_)
  have h := q_let_at ex_3 h
  refine lv_istore_n (lv' := [(0, .int x_3)]) hx hb dJ6_bitCount_0f7a4_33 rfl hl (by decide) rfl (fun ls hl => ?_)
  refine lv_iload_n hx hb dJ6_bitCount_0f7a4_34 rfl (lv_at hl 0 rfl) ?_
  refine lv_iload_n hx hb dJ6_bitCount_0f7a4_35 rfl (lv_at hl 0 rfl) ?_
  refine lv_bipush (v := 8) hx hb dJ6_bitCount_0f7a4_36 (by decide) ?_
  refine lv_iushr hx hb dJ6_bitCount_0f7a4_38 rfl ?_
  refine lv_iadd hx hb dJ6_bitCount_0f7a4_39 ?_
  refine lv_topi (fun x_4 ex_4 => ?_)
  have h := q_let_at ex_4 h
  refine lv_istore_n (lv' := [(0, .int x_4)]) hx hb dJ6_bitCount_0f7a4_40 rfl hl (by decide) rfl (fun ls hl => ?_)
  refine lv_iload_n hx hb dJ6_bitCount_0f7a4_41 rfl (lv_at hl 0 rfl) ?_
  refine lv_iload_n hx hb dJ6_bitCount_0f7a4_42 rfl (lv_at hl 0 rfl) ?_
  refine lv_bipush (v := 16) hx hb dJ6_bitCount_0f7a4_43 (by decide) ?_
  refine lv_iushr hx hb dJ6_bitCount_0f7a4_45 rfl ?_
  refine lv_iadd hx hb dJ6_bitCount_0f7a4_46 ?_
  refine lv_topi (fun x_5 ex_5 => ?_)
  have h := q_let_at ex_5 h
  refine lv_istore_n (lv' := [(0, .int x_5)]) hx hb dJ6_bitCount_0f7a4_47 rfl hl (by decide) rfl (fun ls hl => ?_)
  refine lv_iload_n hx hb dJ6_bitCount_0f7a4_48 rfl (lv_at hl 0 rfl) ?_
  refine lv_bipush (v := 63) hx hb dJ6_bitCount_0f7a4_49 (by decide) ?_
  refine lv_iand hx hb dJ6_bitCount_0f7a4_51 ?_
  have e9 := Option.some.inj h
  exact q_iret hx hb hr hlocks hK hP hD hS dJ6_bitCount_0f7a4_52 (by first | rw [← e9] | rfl) (by first | rw [← e9] | rfl)
theorem eJ6_bitCount_0f7a4 : yJ6_bitCount_0f7a4.cls ≠ "java/lang/invoke/MethodHandle" ∧ yJ6_bitCount_0f7a4.cls ≠ "java/lang/invoke/VarHandle" ∧ (parseMethodDescriptor yJ6_bitCount_0f7a4.desc).map (fun d => d.parameters.length) = some 1 := by decide +kernel
theorem uX0_has_X0 : ∀ w ∈ u_ws RX0 TX0 13, w ∈ wsX0_has := by decide +kernel
theorem kX0_has_1 : Cond.fieldLink RX0 24 "BeamSeats$Island" "size" "I" ∈ wsX0_has := List.mem_of_getElem? (i := 1) (by decide +kernel)
def f_X0_has (N : Nat) (F : Nat → Nat → Int32) (p1 : Int32) : Option (Int32) :=
  if p1 < 0 then
    some (0 : Int32)
  else
    if (F 0 4) ≤ p1 then
      some (0 : Int32)
    else
      some (1 : Int32)
set_option maxHeartbeats 4000000 in
set_option maxRecDepth 100000 in
theorem c_X0_has (l : Launch) (D : va_G) (y : Nat → ClassId) (t : Nat → Nat) (q : Nat → Nat) (sz N : Nat) (F : Nat → Nat → Int32) (p1 : Int32) (res : Int32) (h : f_X0_has N F p1 = some res) : Met l yX0_has wsX0_has ({ frames := 0, cells := 0, slots := 0, locals := 0 } : Room) (pPre D y t [.ref (q 0), .int p1] (wI y q F) sz) (pQi D y res (wI y q F) (va_A (wI y q F) sz)) 0 0 (va_A (wI y q F) sz) := by
  refine q_start (Qc := (fun A => pQi D y res (wI y q F) A)) (cc := cX0_has) (maxL := 2) (ret := (some .boolean)) (by decide) rfl (Nat.le_of_ble_eq_true rfl) ?_
  intro p e s m below meth c A ls hx hb hr hts hown hlocks hmn hml hP hK hZ hD hA hS hl
  have hl : lv_has ls 2 [(0, .ref (q 0)), (1, .int p1)] := hl
  have hown : s.vm.findClass RX0 = some m.cls := hown
  unfold f_X0_has at h
  refine lv_iload_n hx hb dX0_has_0 rfl (lv_at hl 1 rfl) ?_
  refine lv_if_lt (tgt := 16) hx hb dX0_has_1 (by decide) (fun c_1 => ?_) (fun c_1 => ?_)
  · have h := q_t c_1 h
    refine lv_iconst (v := 0) hx hb dX0_has_16 (by decide) ?_
    have e9 := Option.some.inj h
    exact q_zret hx hb hr hlocks hK hP hD hS dX0_has_17 rfl (by first | rw [← e9] | rfl) (by first | rw [← e9] | rfl)
  · have h := q_f c_1 h
    refine lv_iload_n hx hb dX0_has_4 rfl (lv_at hl 1 rfl) ?_
    refine lv_aload_n hx hb dX0_has_5 rfl (lv_at hl 0 rfl) ?_
    refine va_get (D := D) (ci := 0) (v := .int (F 0 4)) (C := RX0) (T := TX0) (N := 13) hx hb hts uX0_has_X0 hown hK hP 0 rfl rfl 4 (by decide) (hts _ kX0_has_1) (fun _ h9 => h9) rfl dX0_has_6 ?_
    refine lv_icmp_ge (tgt := 16) hx hb dX0_has_9 (by decide) (fun c_2 => ?_) (fun c_2 => ?_)
    · have h := q_t c_2 h
      refine lv_iconst (v := 0) hx hb dX0_has_16 (by decide) ?_
      have e9 := Option.some.inj h
      exact q_zret hx hb hr hlocks hK hP hD hS dX0_has_17 rfl (by first | rw [← e9] | rfl) (by first | rw [← e9] | rfl)
    · have h := q_f c_2 h
      refine lv_iconst (v := 1) hx hb dX0_has_12 (by decide) ?_
      refine lv_goto (tgt := 17) hx hb dX0_has_13 (by decide) ?_
      have e9 := Option.some.inj h
      exact q_zret hx hb hr hlocks hK hP hD hS dX0_has_17 rfl (by first | rw [← e9] | rfl) (by first | rw [← e9] | rfl)
theorem eX0_has : yX0_has.cls = RX0 ∧ yX0_has.cls ≠ "java/lang/invoke/MethodHandle" ∧ yX0_has.cls ≠ "java/lang/invoke/VarHandle" ∧ (parseMethodDescriptor yX0_has.desc).map (fun d => d.parameters.length) = some 1 := by decide +kernel
theorem uX0_isOn_X0 : ∀ w ∈ u_ws RX0 TX0 13, w ∈ wsX0_isOn := by decide +kernel
theorem kX0_isOn_1 : Cond.fieldLink RX0 27 "BeamSeats$Island" "onSet" "I" ∈ wsX0_isOn := List.mem_of_getElem? (i := 1) (by decide +kernel)
def f_X0_isOn (N : Nat) (F : Nat → Nat → Int32) (p1 : Int32) : Option (Int32) :=
  if (((F 0 5) >>> (p1 &&& 31)) &&& (1 : Int32)) = (1 : Int32) then
    some (1 : Int32)
  else
    some (0 : Int32)
set_option maxHeartbeats 4000000 in
set_option maxRecDepth 100000 in
theorem c_X0_isOn (l : Launch) (D : va_G) (y : Nat → ClassId) (t : Nat → Nat) (q : Nat → Nat) (sz N : Nat) (F : Nat → Nat → Int32) (p1 : Int32) (res : Int32) (h : f_X0_isOn N F p1 = some res) : Met l yX0_isOn wsX0_isOn ({ frames := 0, cells := 0, slots := 0, locals := 0 } : Room) (pPre D y t [.ref (q 0), .int p1] (wI y q F) sz) (pQi D y res (wI y q F) (va_A (wI y q F) sz)) 0 0 (va_A (wI y q F) sz) := by
  refine q_start (Qc := (fun A => pQi D y res (wI y q F) A)) (cc := cX0_isOn) (maxL := 2) (ret := (some .boolean)) (by decide) rfl (Nat.le_of_ble_eq_true rfl) ?_
  intro p e s m below meth c A ls hx hb hr hts hown hlocks hmn hml hP hK hZ hD hA hS hl
  have hl : lv_has ls 2 [(0, .ref (q 0)), (1, .int p1)] := hl
  have hown : s.vm.findClass RX0 = some m.cls := hown
  unfold f_X0_isOn at h
  refine lv_aload_n hx hb dX0_isOn_0 rfl (lv_at hl 0 rfl) ?_
  refine va_get (D := D) (ci := 0) (v := .int (F 0 5)) (C := RX0) (T := TX0) (N := 13) hx hb hts uX0_isOn_X0 hown hK hP 0 rfl rfl 5 (by decide) (hts _ kX0_isOn_1) (fun _ h9 => h9) rfl dX0_isOn_1 ?_
  refine lv_iload_n hx hb dX0_isOn_4 rfl (lv_at hl 1 rfl) ?_
  refine lv_ishr hx hb dX0_isOn_5 ?_
  refine lv_iconst (v := 1) hx hb dX0_isOn_6 (by decide) ?_
  refine lv_iand hx hb dX0_isOn_7 ?_
  refine lv_iconst (v := 1) hx hb dX0_isOn_8 (by decide) ?_
  refine lv_icmp_ne (tgt := 16) hx hb dX0_isOn_9 (by decide) (fun c_1 => ?_) (fun c_1 => ?_)
  · have h := q_f c_1 h
    refine lv_iconst (v := 0) hx hb dX0_isOn_16 (by decide) ?_
    have e9 := Option.some.inj h
    exact q_zret hx hb hr hlocks hK hP hD hS dX0_isOn_17 rfl (by first | rw [← e9] | rfl) (by first | rw [← e9] | rfl)
  · have h := q_t c_1 h
    refine lv_iconst (v := 1) hx hb dX0_isOn_12 (by decide) ?_
    refine lv_goto (tgt := 17) hx hb dX0_isOn_13 (by decide) ?_
    have e9 := Option.some.inj h
    exact q_zret hx hb hr hlocks hK hP hD hS dX0_isOn_17 rfl (by first | rw [← e9] | rfl) (by first | rw [← e9] | rfl)
theorem eX0_isOn : yX0_isOn.cls = RX0 ∧ yX0_isOn.cls ≠ "java/lang/invoke/MethodHandle" ∧ yX0_isOn.cls ≠ "java/lang/invoke/VarHandle" ∧ (parseMethodDescriptor yX0_isOn.desc).map (fun d => d.parameters.length) = some 1 := by decide +kernel
theorem uX0_isLost_X0 : ∀ w ∈ u_ws RX0 TX0 13, w ∈ wsX0_isLost := by decide +kernel
theorem kX0_isLost_1 : Cond.fieldLink RX0 30 "BeamSeats$Island" "lostSet" "I" ∈ wsX0_isLost := List.mem_of_getElem? (i := 1) (by decide +kernel)
def f_X0_isLost (N : Nat) (F : Nat → Nat → Int32) (p1 : Int32) : Option (Int32) :=
  if (((F 0 6) >>> (p1 &&& 31)) &&& (1 : Int32)) = (1 : Int32) then
    some (1 : Int32)
  else
    some (0 : Int32)
set_option maxHeartbeats 4000000 in
set_option maxRecDepth 100000 in
theorem c_X0_isLost (l : Launch) (D : va_G) (y : Nat → ClassId) (t : Nat → Nat) (q : Nat → Nat) (sz N : Nat) (F : Nat → Nat → Int32) (p1 : Int32) (res : Int32) (h : f_X0_isLost N F p1 = some res) : Met l yX0_isLost wsX0_isLost ({ frames := 0, cells := 0, slots := 0, locals := 0 } : Room) (pPre D y t [.ref (q 0), .int p1] (wI y q F) sz) (pQi D y res (wI y q F) (va_A (wI y q F) sz)) 0 0 (va_A (wI y q F) sz) := by
  refine q_start (Qc := (fun A => pQi D y res (wI y q F) A)) (cc := cX0_isLost) (maxL := 2) (ret := (some .boolean)) (by decide) rfl (Nat.le_of_ble_eq_true rfl) ?_
  intro p e s m below meth c A ls hx hb hr hts hown hlocks hmn hml hP hK hZ hD hA hS hl
  have hl : lv_has ls 2 [(0, .ref (q 0)), (1, .int p1)] := hl
  have hown : s.vm.findClass RX0 = some m.cls := hown
  unfold f_X0_isLost at h
  refine lv_aload_n hx hb dX0_isLost_0 rfl (lv_at hl 0 rfl) ?_
  refine va_get (D := D) (ci := 0) (v := .int (F 0 6)) (C := RX0) (T := TX0) (N := 13) hx hb hts uX0_isLost_X0 hown hK hP 0 rfl rfl 6 (by decide) (hts _ kX0_isLost_1) (fun _ h9 => h9) rfl dX0_isLost_1 ?_
  refine lv_iload_n hx hb dX0_isLost_4 rfl (lv_at hl 1 rfl) ?_
  refine lv_ishr hx hb dX0_isLost_5 ?_
  refine lv_iconst (v := 1) hx hb dX0_isLost_6 (by decide) ?_
  refine lv_iand hx hb dX0_isLost_7 ?_
  refine lv_iconst (v := 1) hx hb dX0_isLost_8 (by decide) ?_
  refine lv_icmp_ne (tgt := 16) hx hb dX0_isLost_9 (by decide) (fun c_1 => ?_) (fun c_1 => ?_)
  · have h := q_f c_1 h
    refine lv_iconst (v := 0) hx hb dX0_isLost_16 (by decide) ?_
    have e9 := Option.some.inj h
    exact q_zret hx hb hr hlocks hK hP hD hS dX0_isLost_17 rfl (by first | rw [← e9] | rfl) (by first | rw [← e9] | rfl)
  · have h := q_t c_1 h
    refine lv_iconst (v := 1) hx hb dX0_isLost_12 (by decide) ?_
    refine lv_goto (tgt := 17) hx hb dX0_isLost_13 (by decide) ?_
    have e9 := Option.some.inj h
    exact q_zret hx hb hr hlocks hK hP hD hS dX0_isLost_17 rfl (by first | rw [← e9] | rfl) (by first | rw [← e9] | rfl)
theorem eX0_isLost : yX0_isLost.cls = RX0 ∧ yX0_isLost.cls ≠ "java/lang/invoke/MethodHandle" ∧ yX0_isLost.cls ≠ "java/lang/invoke/VarHandle" ∧ (parseMethodDescriptor yX0_isLost.desc).map (fun d => d.parameters.length) = some 1 := by decide +kernel
theorem uX0_add_X0 : ∀ w ∈ u_ws RX0 TX0 13, w ∈ wsX0_add := by decide +kernel
theorem kX0_add_1 : Cond.fieldLink RX0 24 "BeamSeats$Island" "size" "I" ∈ wsX0_add := List.mem_of_getElem? (i := 1) (by decide +kernel)
theorem kX0_add_2 : Cond.fieldLink RX0 49 "BeamSeats$Island" "times" "[I" ∈ wsX0_add := List.mem_of_getElem? (i := 7) (by decide +kernel)
theorem kX0_add_3 : Cond.fieldLink RX0 46 "BeamSeats$Island" "goals" "[I" ∈ wsX0_add := List.mem_of_getElem? (i := 6) (by decide +kernel)
theorem kX0_add_4 : Cond.fieldLink RX0 43 "BeamSeats$Island" "wets" "[I" ∈ wsX0_add := List.mem_of_getElem? (i := 5) (by decide +kernel)
theorem kX0_add_5 : Cond.fieldLink RX0 40 "BeamSeats$Island" "outs" "[I" ∈ wsX0_add := List.mem_of_getElem? (i := 4) (by decide +kernel)
theorem kX0_add_6 : Cond.fieldLink RX0 37 "BeamSeats$Island" "places" "[I" ∈ wsX0_add := List.mem_of_getElem? (i := 3) (by decide +kernel)
theorem kX0_add_7 : Cond.fieldLink RX0 33 "BeamSeats$Island" "kinds" "[I" ∈ wsX0_add := List.mem_of_getElem? (i := 2) (by decide +kernel)
def f_X0_add (N : Nat) (F : Nat → Nat → Int32) (p1 : Int32) (p2 : Int32) : Option (Int32 × (Nat → Nat → Int32)) :=
  q_let (F 0 4) (fun x_1 =>
  q_grd x_1 8 (
  q_let (q_up F 1 x_1.toNatClampNeg p1) (fun F_3 =>
  q_grd x_1 8 (
  q_let (q_up F_3 2 x_1.toNatClampNeg p2) (fun F_5 =>
  q_grd x_1 8 (
  q_let (q_up F_5 3 x_1.toNatClampNeg (3 : Int32)) (fun F_7 =>
  q_grd x_1 8 (
  q_let (q_up F_7 4 x_1.toNatClampNeg (50 : Int32)) (fun F_9 =>
  q_grd x_1 8 (
  q_let (q_up F_9 5 x_1.toNatClampNeg (30 : Int32)) (fun F_11 =>
  q_grd x_1 8 (
  q_let (q_up F_11 6 x_1.toNatClampNeg (0 : Int32)) (fun F_13 =>
  q_let (q_up F_13 0 4 ((F_13 0 4) + (1 : Int32))) (fun F_14 =>
  some (x_1, F_14)))))))))))))))
set_option maxHeartbeats 4000000 in
set_option maxRecDepth 100000 in
theorem c_X0_add (l : Launch) (D : va_G) (y : Nat → ClassId) (t : Nat → Nat) (q : Nat → Nat) (sz N : Nat) (F : Nat → Nat → Int32) (p1 : Int32) (p2 : Int32) (res : Int32 × (Nat → Nat → Int32)) (h : f_X0_add N F p1 p2 = some res) : Met l yX0_add wsX0_add ({ frames := 0, cells := 0, slots := 0, locals := 0 } : Room) (pPre D y t [.ref (q 0), .int p1, .int p2] (wI y q F) sz) (pQi D y (res.1) (wI y q (res.2)) (va_A (wI y q F) sz)) 0 0 (va_A (wI y q F) sz) := by
  refine q_start (Qc := (fun A => pQi D y (res.1) (wI y q (res.2)) A)) (cc := cX0_add) (maxL := 4) (ret := (some .int)) (by decide) rfl (Nat.le_of_ble_eq_true rfl) ?_
  intro p e s m below meth c A ls hx hb hr hts hown hlocks hmn hml hP hK hZ hD hA hS hl
  have hl : lv_has ls 4 [(0, .ref (q 0)), (1, .int p1), (2, .int p2)] := hl
  have hown : s.vm.findClass RX0 = some m.cls := hown
  unfold f_X0_add at h
  refine lv_aload_n hx hb dX0_add_0 rfl (lv_at hl 0 rfl) ?_
  refine va_get (D := D) (ci := 0) (v := .int (F 0 4)) (C := RX0) (T := TX0) (N := 13) hx hb hts uX0_add_X0 hown hK hP 0 rfl rfl 4 (by decide) (hts _ kX0_add_1) (fun _ h9 => h9) rfl dX0_add_1 ?_
  refine lv_topi (fun x_1 ex_1 => ?_)
  have h := q_let_at ex_1 h
  refine lv_istore_n (lv' := [(3, .int x_1), (0, .ref (q 0)), (1, .int p1), (2, .int p2)]) hx hb dX0_add_4 rfl hl (by decide) rfl (fun ls hl => ?_)
  refine lv_aload_n hx hb dX0_add_5 rfl (lv_at hl 1 rfl) ?_
  refine va_get (D := D) (ci := 0) (v := .ref (q 1)) (C := RX0) (T := TX0) (N := 13) hx hb hts uX0_add_X0 hown hK hP 0 rfl rfl 7 (by decide) (hts _ kX0_add_7) (fun _ h9 => h9) rfl dX0_add_6 ?_
  refine lv_iload_n hx hb dX0_add_9 rfl (lv_at hl 0 rfl) ?_
  refine lv_iload_n hx hb dX0_add_10 rfl (lv_at hl 2 rfl) ?_
  obtain ⟨z_2, h⟩ := q_grd_ok h
  obtain ⟨F_3, eF_3, h⟩ := q_let_ok h
  refine va_iast hx hb hK hP hD hS 1 0 rfl rfl z_2 dX0_add_11 (fun H locs hP hD hS => ?_)
  have hP : va_P D vwCl (wI y q F_3) H := by rw [eF_3]; exact hP
  have hD : va_D A (wI y q F_3) := by rw [eF_3]; exact hD
  refine lv_aload_n hx hb dX0_add_12 rfl (lv_at hl 1 rfl) ?_
  refine va_get (D := D) (ci := 0) (v := .ref (q 2)) (C := RX0) (T := TX0) (N := 13) hx hb hts uX0_add_X0 hown hK hP 0 rfl rfl 8 (by decide) (hts _ kX0_add_6) (fun _ h9 => h9) rfl dX0_add_13 ?_
  refine lv_iload_n hx hb dX0_add_16 rfl (lv_at hl 0 rfl) ?_
  refine lv_iload_n hx hb dX0_add_17 rfl (lv_at hl 3 rfl) ?_
  obtain ⟨z_4, h⟩ := q_grd_ok h
  obtain ⟨F_5, eF_5, h⟩ := q_let_ok h
  refine va_iast hx hb hK hP hD hS 2 0 rfl rfl z_4 dX0_add_18 (fun H locs hP hD hS => ?_)
  have hP : va_P D vwCl (wI y q F_5) H := by rw [eF_5]; exact hP
  have hD : va_D A (wI y q F_5) := by rw [eF_5]; exact hD
  refine lv_aload_n hx hb dX0_add_19 rfl (lv_at hl 1 rfl) ?_
  refine va_get (D := D) (ci := 0) (v := .ref (q 3)) (C := RX0) (T := TX0) (N := 13) hx hb hts uX0_add_X0 hown hK hP 0 rfl rfl 9 (by decide) (hts _ kX0_add_5) (fun _ h9 => h9) rfl dX0_add_20 ?_
  refine lv_iload_n hx hb dX0_add_23 rfl (lv_at hl 0 rfl) ?_
  refine lv_iconst (v := 3) hx hb dX0_add_24 (by decide) ?_
  obtain ⟨z_6, h⟩ := q_grd_ok h
  obtain ⟨F_7, eF_7, h⟩ := q_let_ok h
  refine va_iast hx hb hK hP hD hS 3 0 rfl rfl z_6 dX0_add_25 (fun H locs hP hD hS => ?_)
  have hP : va_P D vwCl (wI y q F_7) H := by rw [eF_7]; exact hP
  have hD : va_D A (wI y q F_7) := by rw [eF_7]; exact hD
  refine lv_aload_n hx hb dX0_add_26 rfl (lv_at hl 1 rfl) ?_
  refine va_get (D := D) (ci := 0) (v := .ref (q 4)) (C := RX0) (T := TX0) (N := 13) hx hb hts uX0_add_X0 hown hK hP 0 rfl rfl 10 (by decide) (hts _ kX0_add_4) (fun _ h9 => h9) rfl dX0_add_27 ?_
  refine lv_iload_n hx hb dX0_add_30 rfl (lv_at hl 0 rfl) ?_
  refine lv_bipush (v := 50) hx hb dX0_add_31 (by decide) ?_
  obtain ⟨z_8, h⟩ := q_grd_ok h
  obtain ⟨F_9, eF_9, h⟩ := q_let_ok h
  refine va_iast hx hb hK hP hD hS 4 0 rfl rfl z_8 dX0_add_33 (fun H locs hP hD hS => ?_)
  have hP : va_P D vwCl (wI y q F_9) H := by rw [eF_9]; exact hP
  have hD : va_D A (wI y q F_9) := by rw [eF_9]; exact hD
  refine lv_aload_n hx hb dX0_add_34 rfl (lv_at hl 1 rfl) ?_
  refine va_get (D := D) (ci := 0) (v := .ref (q 5)) (C := RX0) (T := TX0) (N := 13) hx hb hts uX0_add_X0 hown hK hP 0 rfl rfl 11 (by decide) (hts _ kX0_add_3) (fun _ h9 => h9) rfl dX0_add_35 ?_
  refine lv_iload_n hx hb dX0_add_38 rfl (lv_at hl 0 rfl) ?_
  refine lv_bipush (v := 30) hx hb dX0_add_39 (by decide) ?_
  obtain ⟨z_10, h⟩ := q_grd_ok h
  obtain ⟨F_11, eF_11, h⟩ := q_let_ok h
  refine va_iast hx hb hK hP hD hS 5 0 rfl rfl z_10 dX0_add_41 (fun H locs hP hD hS => ?_)
  have hP : va_P D vwCl (wI y q F_11) H := by rw [eF_11]; exact hP
  have hD : va_D A (wI y q F_11) := by rw [eF_11]; exact hD
  refine lv_aload_n hx hb dX0_add_42 rfl (lv_at hl 1 rfl) ?_
  refine va_get (D := D) (ci := 0) (v := .ref (q 6)) (C := RX0) (T := TX0) (N := 13) hx hb hts uX0_add_X0 hown hK hP 0 rfl rfl 12 (by decide) (hts _ kX0_add_2) (fun _ h9 => h9) rfl dX0_add_43 ?_
  refine lv_iload_n hx hb dX0_add_46 rfl (lv_at hl 0 rfl) ?_
  refine lv_iconst (v := 0) hx hb dX0_add_47 (by decide) ?_
  obtain ⟨z_12, h⟩ := q_grd_ok h
  obtain ⟨F_13, eF_13, h⟩ := q_let_ok h
  refine va_iast hx hb hK hP hD hS 6 0 rfl rfl z_12 dX0_add_48 (fun H locs hP hD hS => ?_)
  have hP : va_P D vwCl (wI y q F_13) H := by rw [eF_13]; exact hP
  have hD : va_D A (wI y q F_13) := by rw [eF_13]; exact hD
  refine lv_aload_n hx hb dX0_add_49 rfl (lv_at hl 1 rfl) ?_
  refine lv_dup hx hb dX0_add_50 rfl ?_
  refine va_get (D := D) (ci := 0) (v := .int (F_13 0 4)) (C := RX0) (T := TX0) (N := 13) hx hb hts uX0_add_X0 hown hK hP 0 rfl rfl 4 (by decide) (hts _ kX0_add_1) (fun _ h9 => h9) rfl dX0_add_51 ?_
  refine lv_iconst (v := 1) hx hb dX0_add_54 (by decide) ?_
  refine lv_iadd hx hb dX0_add_55 ?_
  obtain ⟨F_14, eF_14, h⟩ := q_let_ok h
  refine va_put (D := D) (ci := 0) (v := .int ((F_13 0 4) + (1 : Int32))) (ty := .int) (C := RX0) (T := TX0) (N := 13) hx hb hts uX0_add_X0 tyX0 tyX0_ok nmX0 hown hK hP hD hS 0 rfl rfl 4 (by decide) (hts _ kX0_add_1) (fun _ h9 => h9) rfl (by decide +kernel) rfl rfl (Nat.le_of_ble_eq_true rfl) dX0_add_56 (fun H locs hP hD hS => ?_)
  have hP : va_P D vwCl (wI y q F_14) H := by rw [eF_14]; exact hP
  have hD : va_D A (wI y q F_14) := by rw [eF_14]; exact hD
  refine lv_iload_n hx hb dX0_add_59 rfl (lv_at hl 0 rfl) ?_
  have e9 := Option.some.inj h
  exact q_iret hx hb hr hlocks hK hP hD hS dX0_add_60 (by first | rw [← e9] | rfl) (by first | rw [← e9] | rfl)
theorem eX0_add : yX0_add.cls = RX0 ∧ yX0_add.cls ≠ "java/lang/invoke/MethodHandle" ∧ yX0_add.cls ≠ "java/lang/invoke/VarHandle" ∧ (parseMethodDescriptor yX0_add.desc).map (fun d => d.parameters.length) = some 2 := by decide +kernel
theorem uX0_weightOf_X0 : ∀ w ∈ u_ws RX0 TX0 13, w ∈ wsX0_weightOf := by decide +kernel
theorem kX0_weightOf_1 : Cond.fieldLink RX0 33 "BeamSeats$Island" "kinds" "[I" ∈ wsX0_weightOf := List.mem_of_getElem? (i := 2) (by decide +kernel)
theorem kX0_weightOf_2 : Cond.fieldLink RX0 43 "BeamSeats$Island" "wets" "[I" ∈ wsX0_weightOf := List.mem_of_getElem? (i := 1) (by decide +kernel)
def f_X0_weightOf (N : Nat) (F : Nat → Nat → Int32) (p1 : Int32) : Option (Int32) :=
  q_grd p1 8 (
  q_let ((1 : Int32) + ((F 4 p1.toNatClampNeg) / (25 : Int32))) (fun x_2 =>
  q_grd p1 8 (
  q_let (F 1 p1.toNatClampNeg) (fun x_4 =>
  if x_4 = 1 then
    some x_2
  else
    if x_4 = 2 then
      some (4 : Int32)
    else
      if x_4 = 3 then
        some (5 : Int32)
      else
        if x_4 = 4 then
          some (x_2 + (1 : Int32))
        else
          if x_4 = 5 then
            some (2 : Int32)
          else
            some (3 : Int32)))))
set_option maxHeartbeats 4000000 in
set_option maxRecDepth 100000 in
theorem c_X0_weightOf (l : Launch) (D : va_G) (y : Nat → ClassId) (t : Nat → Nat) (q : Nat → Nat) (sz N : Nat) (F : Nat → Nat → Int32) (p1 : Int32) (res : Int32) (h : f_X0_weightOf N F p1 = some res) : Met l yX0_weightOf wsX0_weightOf ({ frames := 0, cells := 0, slots := 0, locals := 0 } : Room) (pPre D y t [.ref (q 0), .int p1] (wI y q F) sz) (pQi D y res (wI y q F) (va_A (wI y q F) sz)) 0 0 (va_A (wI y q F) sz) := by
  refine q_start (Qc := (fun A => pQi D y res (wI y q F) A)) (cc := cX0_weightOf) (maxL := 3) (ret := (some .int)) (by decide) rfl (Nat.le_of_ble_eq_true rfl) ?_
  intro p e s m below meth c A ls hx hb hr hts hown hlocks hmn hml hP hK hZ hD hA hS hl
  have hl : lv_has ls 3 [(0, .ref (q 0)), (1, .int p1)] := hl
  have hown : s.vm.findClass RX0 = some m.cls := hown
  unfold f_X0_weightOf at h
  refine lv_iconst (v := 1) hx hb dX0_weightOf_0 (by decide) ?_
  refine lv_aload_n hx hb dX0_weightOf_1 rfl (lv_at hl 0 rfl) ?_
  refine va_get (D := D) (ci := 0) (v := .ref (q 4)) (C := RX0) (T := TX0) (N := 13) hx hb hts uX0_weightOf_X0 hown hK hP 0 rfl rfl 10 (by decide) (hts _ kX0_weightOf_2) (fun _ h9 => h9) rfl dX0_weightOf_2 ?_
  refine lv_iload_n hx hb dX0_weightOf_5 rfl (lv_at hl 1 rfl) ?_
  obtain ⟨z_1, h⟩ := q_grd_ok h
  refine va_iald hx hb hK hP 4 0 rfl rfl z_1 dX0_weightOf_6 ?_
  refine lv_bipush (v := 25) hx hb dX0_weightOf_7 (by decide) ?_
  refine lv_idiv hx hb dX0_weightOf_9 (by decide) ?_
  refine lv_iadd hx hb dX0_weightOf_10 ?_
  refine lv_topi (fun x_2 ex_2 => ?_)
  have h := q_let_at ex_2 h
  refine lv_istore_n (lv' := [(2, .int x_2), (0, .ref (q 0)), (1, .int p1)]) hx hb dX0_weightOf_11 rfl hl (by decide) rfl (fun ls hl => ?_)
  refine lv_aload_n hx hb dX0_weightOf_12 rfl (lv_at hl 1 rfl) ?_
  refine va_get (D := D) (ci := 0) (v := .ref (q 1)) (C := RX0) (T := TX0) (N := 13) hx hb hts uX0_weightOf_X0 hown hK hP 0 rfl rfl 7 (by decide) (hts _ kX0_weightOf_1) (fun _ h9 => h9) rfl dX0_weightOf_13 ?_
  refine lv_iload_n hx hb dX0_weightOf_16 rfl (lv_at hl 2 rfl) ?_
  obtain ⟨z_3, h⟩ := q_grd_ok h
  refine va_iald hx hb hK hP 1 0 rfl rfl z_3 dX0_weightOf_17 ?_
  refine lv_topi (fun x_4 ex_4 => ?_)
  have h := q_let_at ex_4 h
  by_cases c_5 : x_4 = 1
  · have h := q_t c_5 h
    refine lv_tableIn (tgt := 52) (off := 34) hx hb dX0_weightOf_18 (by rw [c_5]; decide) (by rw [c_5]; decide) (by rw [c_5]; rfl) (by decide) ?_
    refine lv_iload_n hx hb dX0_weightOf_52 rfl (lv_at hl 0 rfl) ?_
    have e9 := Option.some.inj h
    exact q_iret hx hb hr hlocks hK hP hD hS dX0_weightOf_53 (by first | rw [← e9] | rfl) (by first | rw [← e9] | rfl)
  · have h := q_f c_5 h
    by_cases c_6 : x_4 = 2
    · have h := q_t c_6 h
      refine lv_tableIn (tgt := 54) (off := 36) hx hb dX0_weightOf_18 (by rw [c_6]; decide) (by rw [c_6]; decide) (by rw [c_6]; rfl) (by decide) ?_
      refine lv_iconst (v := 4) hx hb dX0_weightOf_54 (by decide) ?_
      have e9 := Option.some.inj h
      exact q_iret hx hb hr hlocks hK hP hD hS dX0_weightOf_55 (by first | rw [← e9] | rfl) (by first | rw [← e9] | rfl)
    · have h := q_f c_6 h
      by_cases c_7 : x_4 = 3
      · have h := q_t c_7 h
        refine lv_tableIn (tgt := 56) (off := 38) hx hb dX0_weightOf_18 (by rw [c_7]; decide) (by rw [c_7]; decide) (by rw [c_7]; rfl) (by decide) ?_
        refine lv_iconst (v := 5) hx hb dX0_weightOf_56 (by decide) ?_
        have e9 := Option.some.inj h
        exact q_iret hx hb hr hlocks hK hP hD hS dX0_weightOf_57 (by first | rw [← e9] | rfl) (by first | rw [← e9] | rfl)
      · have h := q_f c_7 h
        by_cases c_8 : x_4 = 4
        · have h := q_t c_8 h
          refine lv_tableIn (tgt := 58) (off := 40) hx hb dX0_weightOf_18 (by rw [c_8]; decide) (by rw [c_8]; decide) (by rw [c_8]; rfl) (by decide) ?_
          refine lv_iload_n hx hb dX0_weightOf_58 rfl (lv_at hl 0 rfl) ?_
          refine lv_iconst (v := 1) hx hb dX0_weightOf_59 (by decide) ?_
          refine lv_iadd hx hb dX0_weightOf_60 ?_
          have e9 := Option.some.inj h
          exact q_iret hx hb hr hlocks hK hP hD hS dX0_weightOf_61 (by first | rw [← e9] | rfl) (by first | rw [← e9] | rfl)
        · have h := q_f c_8 h
          by_cases c_9 : x_4 = 5
          · have h := q_t c_9 h
            refine lv_tableIn (tgt := 62) (off := 44) hx hb dX0_weightOf_18 (by rw [c_9]; decide) (by rw [c_9]; decide) (by rw [c_9]; rfl) (by decide) ?_
            refine lv_iconst (v := 2) hx hb dX0_weightOf_62 (by decide) ?_
            have e9 := Option.some.inj h
            exact q_iret hx hb hr hlocks hK hP hD hS dX0_weightOf_63 (by first | rw [← e9] | rfl) (by first | rw [← e9] | rfl)
          · have h := q_f c_9 h
            have nc_5 := lv_neT c_5 (show ((1 : Int32)).toInt = 1 from by decide)
            have nc_6 := lv_neT c_6 (show ((2 : Int32)).toInt = 2 from by decide)
            have nc_7 := lv_neT c_7 (show ((3 : Int32)).toInt = 3 from by decide)
            have nc_8 := lv_neT c_8 (show ((4 : Int32)).toInt = 4 from by decide)
            have nc_9 := lv_neT c_9 (show ((5 : Int32)).toInt = 5 from by decide)
            refine lv_tableOut (tgt := 64) hx hb dX0_weightOf_18 (by omega) (by decide) ?_
            refine lv_iconst (v := 3) hx hb dX0_weightOf_64 (by decide) ?_
            have e9 := Option.some.inj h
            exact q_iret hx hb hr hlocks hK hP hD hS dX0_weightOf_65 (by first | rw [← e9] | rfl) (by first | rw [← e9] | rfl)
theorem eX0_weightOf : yX0_weightOf.cls = RX0 ∧ yX0_weightOf.cls ≠ "java/lang/invoke/MethodHandle" ∧ yX0_weightOf.cls ≠ "java/lang/invoke/VarHandle" ∧ (parseMethodDescriptor yX0_weightOf.desc).map (fun d => d.parameters.length) = some 1 := by decide +kernel
theorem uX0_weightAt_X0 : ∀ w ∈ u_ws RX0 TX0 13, w ∈ wsX0_weightAt := by decide +kernel
theorem kX0_weightAt_1 : Cond.fieldLink RX0 40 "BeamSeats$Island" "outs" "[I" ∈ wsX0_weightAt := List.mem_of_getElem? (i := 2) (by decide +kernel)
theorem kX0_weightAt_2 : Cond.fieldLink RX0 24 "BeamSeats$Island" "size" "I" ∈ wsX0_weightAt := List.mem_of_getElem? (i := 1) (by decide +kernel)
def f_X0_weightAt_L4 (N : Nat) (F : Nat → Nat → Int32) (v1 : Int32) : Nat → Int32 → Int32 → Option (Int32 × Int32)
  | 0, _, _ => none
  | k + 1, v2, v3 =>
    if (F 0 4) ≤ v3 then
      some (v2, v3)
    else
      q_grd v3 8 (
      if (F 3 v3.toNatClampNeg) = v1 then
        q_bd (f_X0_isOn N F v3) (fun r_8 =>
        if r_8 = 0 then
          q_let (v3 + 1) (fun x_11 =>
          f_X0_weightAt_L4 N F v1 k v2 x_11)
        else
          q_bd (f_X0_weightOf N F v3) (fun r_12 =>
          q_let (v2 + r_12) (fun x_14 =>
          q_let (v3 + 1) (fun x_15 =>
          f_X0_weightAt_L4 N F v1 k x_14 x_15))))
      else
        q_let (v3 + 1) (fun x_7 =>
        f_X0_weightAt_L4 N F v1 k v2 x_7))
def f_X0_weightAt (N : Nat) (F : Nat → Nat → Int32) (p1 : Int32) : Option (Int32) :=
  q_bd2 (f_X0_weightAt_L4 N F p1 N (0 : Int32) (0 : Int32)) (fun x_2 x_3 =>
  some x_2)
set_option maxHeartbeats 4000000 in
set_option maxRecDepth 100000 in
theorem c_X0_weightAt (l : Launch) (D : va_G) (y : Nat → ClassId) (t : Nat → Nat) (q : Nat → Nat) (sz N : Nat) (F : Nat → Nat → Int32) (p1 : Int32) (res : Int32) (h : f_X0_weightAt N F p1 = some res) : Met l yX0_weightAt wsX0_weightAt ({ frames := 1, cells := 0, slots := 0, locals := 22 } : Room) (pPre D y t [.ref (q 0), .int p1] (wI y q F) sz) (pQi D y res (wI y q F) (va_A (wI y q F) sz)) 0 0 (va_A (wI y q F) sz) := by
  refine q_start (Qc := (fun A => pQi D y res (wI y q F) A)) (cc := cX0_weightAt) (maxL := 4) (ret := (some .int)) (by decide) rfl (Nat.le_of_ble_eq_true rfl) ?_
  intro p e s m below meth c A ls hx hb hr hts hown hlocks hmn hml hP hK hZ hD hA hS hl
  have hl : lv_has ls 4 [(0, .ref (q 0)), (1, .int p1)] := hl
  have hown : s.vm.findClass RX0 = some m.cls := hown
  unfold f_X0_weightAt at h
  refine lv_iconst (v := 0) hx hb dX0_weightAt_0 (by decide) ?_
  refine lv_istore_n (lv' := [(2, .int (0 : Int32)), (0, .ref (q 0)), (1, .int p1)]) hx hb dX0_weightAt_1 rfl hl (by decide) rfl (fun ls hl => ?_)
  refine lv_iconst (v := 0) hx hb dX0_weightAt_2 (by decide) ?_
  refine lv_istore_n (lv' := [(3, .int (0 : Int32)), (2, .int (0 : Int32)), (0, .ref (q 0)), (1, .int p1)]) hx hb dX0_weightAt_3 rfl hl (by decide) rfl (fun ls hl => ?_)
  obtain ⟨x_2, x_3, hL1, h⟩ := q_bd2_ok h
  have K4_1 : ∀ (H : Heap) (locs : List Loc) (ls : Array Slot), va_P D vwCl (wI y q F) H → va_D A (wI y q F) → va_S A s.heap H locs → lv_has ls 4 [(0, .ref (q 0)), (1, .int p1), (2, .int x_2), (3, .int x_3)] → W p l e ({ frames := 1, cells := 0, slots := 0, locals := 22 } : Room) s m ([.ref (q 0), .int p1] : List Value).toArray below meth c H locs 0 0 (MQ below (pQi D y res (wI y q F) A) ([.ref (q 0), .int p1] : List Value).toArray s 0 0 A) (F0 m 44 ls []) := by
    intro H locs ls hP hD hS hl
    refine lv_iload_n hx hb dX0_weightAt_44 rfl (lv_at hl 2 rfl) ?_
    have e9 := Option.some.inj h
    exact q_iret hx hb hr hlocks hK hP hD hS dX0_weightAt_45 (by first | rw [← e9] | rfl) (by first | rw [← e9] | rfl)
  have L4_1 : ∀ (F : Nat → Nat → Int32) (v1 : Int32) (k : Nat) (v2 : Int32) (v3 : Int32), (∀ (H : Heap) (locs : List Loc) (ls : Array Slot), va_P D vwCl (wI y q F) H → va_D A (wI y q F) → va_S A s.heap H locs → lv_has ls 4 [(0, .ref (q 0)), (1, .int v1), (2, .int x_2), (3, .int x_3)] → W p l e ({ frames := 1, cells := 0, slots := 0, locals := 22 } : Room) s m ([.ref (q 0), .int p1] : List Value).toArray below meth c H locs 0 0 (MQ below (pQi D y res (wI y q F) A) ([.ref (q 0), .int p1] : List Value).toArray s 0 0 A) (F0 m 44 ls [])) → ∀ (H : Heap) (locs : List Loc) (ls : Array Slot), va_P D vwCl (wI y q F) H → va_D A (wI y q F) → va_S A s.heap H locs → lv_has ls 4 [(0, .ref (q 0)), (1, .int v1), (2, .int v2), (3, .int v3)] → f_X0_weightAt_L4 N F v1 k v2 v3 = some (x_2, x_3) → W p l e ({ frames := 1, cells := 0, slots := 0, locals := 22 } : Room) s m ([.ref (q 0), .int p1] : List Value).toArray below meth c H locs 0 0 (MQ below (pQi D y res (wI y q F) A) ([.ref (q 0), .int p1] : List Value).toArray s 0 0 A) (F0 m 4 ls []) := by
    intro F v1 k
    induction k with
    | zero =>
      intro v2 v3 K4_1 H locs ls hP hD hS hl h
      have h : (none : Option (Int32 × Int32)) = some _ := h
      cases h
    | succ k ih4_1 =>
      intro v2 v3 K4_1 H locs ls hP hD hS hl h
      rw [f_X0_weightAt_L4] at h
      refine lv_iload_n hx hb dX0_weightAt_4 rfl (lv_at hl 3 rfl) ?_
      refine lv_aload_n hx hb dX0_weightAt_5 rfl (lv_at hl 0 rfl) ?_
      refine va_get (D := D) (ci := 0) (v := .int (F 0 4)) (C := RX0) (T := TX0) (N := 13) hx hb hts uX0_weightAt_X0 hown hK hP 0 rfl rfl 4 (by decide) (hts _ kX0_weightAt_2) (fun _ h9 => h9) rfl dX0_weightAt_6 ?_
      refine lv_icmp_ge (tgt := 44) hx hb dX0_weightAt_9 (by decide) (fun c_4 => ?_) (fun c_4 => ?_)
      · have h := q_t c_4 h
        cases h
        exact K4_1 _ _ _ hP hD hS (lv_sub hl [0, 1, 2, 3] rfl)
      · have h := q_f c_4 h
        refine lv_aload_n hx hb dX0_weightAt_12 rfl (lv_at hl 0 rfl) ?_
        refine va_get (D := D) (ci := 0) (v := .ref (q 3)) (C := RX0) (T := TX0) (N := 13) hx hb hts uX0_weightAt_X0 hown hK hP 0 rfl rfl 9 (by decide) (hts _ kX0_weightAt_1) (fun _ h9 => h9) rfl dX0_weightAt_13 ?_
        refine lv_iload_n hx hb dX0_weightAt_16 rfl (lv_at hl 3 rfl) ?_
        obtain ⟨z_5, h⟩ := q_grd_ok h
        refine va_iald hx hb hK hP 3 0 rfl rfl z_5 dX0_weightAt_17 ?_
        refine lv_iload_n hx hb dX0_weightAt_18 rfl (lv_at hl 1 rfl) ?_
        refine lv_icmp_ne (tgt := 38) hx hb dX0_weightAt_19 (by decide) (fun c_6 => ?_) (fun c_6 => ?_)
        · have h := q_f c_6 h
          obtain ⟨x_7, ex_7, h⟩ := q_let_ok h
          refine lv_iinc (v := x_7) (lv' := [(3, .int x_7), (0, .ref (q 0)), (1, .int v1), (2, .int v2)]) hx hb dX0_weightAt_38 hl (k := 3) rfl (by rw [ex_7]; rfl) (by decide) rfl (fun ls hl => ?_)
          refine lv_goto (tgt := 4) hx hb dX0_weightAt_41 (by decide) ?_
          exact ih4_1 v2 x_7 K4_1 _ _ _ hP hD hS (lv_sub hl [1, 2, 3, 0] rfl) h
        · have h := q_t c_6 h
          refine lv_aload_n hx hb dX0_weightAt_22 rfl (lv_at hl 0 rfl) ?_
          refine lv_iload_n hx hb dX0_weightAt_23 rfl (lv_at hl 3 rfl) ?_
          obtain ⟨r_8, hc_9, h⟩ := q_bd_ok h
          refine q_ci (r := r_8) (va_runV (As := [.int v3]) (rest := []) ⟨hx, hb, hml, hown, hts⟩ (c_X0_isOn l D y t q _ N F v3 r_8 hc_9) (cwV 1 hts gX0_weightAt_X0_isOn rfl rfl rfl eX0_isOn ⟨Nat.le_of_ble_eq_true rfl, Nat.le_of_ble_eq_true rfl⟩) ⟨q_blind, (va_recv hK hP (ci := 0) (q0 := 0) rfl rfl), (q_pre hP hK hZ hD hA hS [0, 1, 2, 3, 4, 5, 6] rfl (by decide))⟩ rfl rfl hl.1 rfl (lv_room (Nat.le_of_ble_eq_true rfl)) dX0_weightAt_24 ⟨Nat.zero_le _, Nat.zero_le _⟩) hP hD hA hS [0, 1, 2, 3, 4, 5, 6] rfl (by decide) rfl (fun H locs hP hD hS => ?_)
          have hP : va_P D vwCl (wI y q F) H := hP
          have hD : va_D A (wI y q F) := hD
          refine lv_if_eq (tgt := 38) hx hb dX0_weightAt_27 (by decide) (fun c_10 => ?_) (fun c_10 => ?_)
          · have h := q_t c_10 h
            obtain ⟨x_11, ex_11, h⟩ := q_let_ok h
            refine lv_iinc (v := x_11) (lv' := [(3, .int x_11), (0, .ref (q 0)), (1, .int v1), (2, .int v2)]) hx hb dX0_weightAt_38 hl (k := 3) rfl (by rw [ex_11]; rfl) (by decide) rfl (fun ls hl => ?_)
            refine lv_goto (tgt := 4) hx hb dX0_weightAt_41 (by decide) ?_
            exact ih4_1 v2 x_11 K4_1 _ _ _ hP hD hS (lv_sub hl [1, 2, 3, 0] rfl) h
          · have h := q_f c_10 h
            refine lv_iload_n hx hb dX0_weightAt_30 rfl (lv_at hl 2 rfl) ?_
            refine lv_aload_n hx hb dX0_weightAt_31 rfl (lv_at hl 0 rfl) ?_
            refine lv_iload_n hx hb dX0_weightAt_32 rfl (lv_at hl 3 rfl) ?_
            obtain ⟨r_12, hc_13, h⟩ := q_bd_ok h
            refine q_ci (r := r_12) (va_runV (As := [.int v3]) (rest := [.int v2]) ⟨hx, hb, hml, hown, hts⟩ (c_X0_weightOf l D y t q _ N F v3 r_12 hc_13) (cwV 1 hts gX0_weightAt_X0_weightOf rfl rfl rfl eX0_weightOf ⟨Nat.le_of_ble_eq_true rfl, Nat.le_of_ble_eq_true rfl⟩) ⟨q_blind, (va_recv hK hP (ci := 0) (q0 := 0) rfl rfl), (q_pre hP hK hZ hD hA hS [0, 1, 2, 3, 4, 5, 6] rfl (by decide))⟩ rfl rfl hl.1 rfl (lv_room (Nat.le_of_ble_eq_true rfl)) dX0_weightAt_33 ⟨Nat.zero_le _, Nat.zero_le _⟩) hP hD hA hS [0, 1, 2, 3, 4, 5, 6] rfl (by decide) rfl (fun H locs hP hD hS => ?_)
            have hP : va_P D vwCl (wI y q F) H := hP
            have hD : va_D A (wI y q F) := hD
            refine lv_iadd hx hb dX0_weightAt_36 ?_
            refine lv_topi (fun x_14 ex_14 => ?_)
            have h := q_let_at ex_14 h
            refine lv_istore_n (lv' := [(2, .int x_14), (0, .ref (q 0)), (1, .int v1), (3, .int v3)]) hx hb dX0_weightAt_37 rfl hl (by decide) rfl (fun ls hl => ?_)
            obtain ⟨x_15, ex_15, h⟩ := q_let_ok h
            refine lv_iinc (v := x_15) (lv' := [(3, .int x_15), (2, .int x_14), (0, .ref (q 0)), (1, .int v1)]) hx hb dX0_weightAt_38 hl (k := 3) rfl (by rw [ex_15]; rfl) (by decide) rfl (fun ls hl => ?_)
            refine lv_goto (tgt := 4) hx hb dX0_weightAt_41 (by decide) ?_
            exact ih4_1 x_14 x_15 K4_1 _ _ _ hP hD hS (lv_sub hl [2, 3, 1, 0] rfl) h
  exact L4_1 F p1 N (0 : Int32) (0 : Int32) K4_1 _ _ _ hP hD hS (lv_sub hl [2, 3, 1, 0] rfl) hL1
theorem eX0_weightAt : yX0_weightAt.cls = RX0 ∧ yX0_weightAt.cls ≠ "java/lang/invoke/MethodHandle" ∧ yX0_weightAt.cls ≠ "java/lang/invoke/VarHandle" ∧ (parseMethodDescriptor yX0_weightAt.desc).map (fun d => d.parameters.length) = some 1 := by decide +kernel
theorem uX0_weightOfAll_X0 : ∀ w ∈ u_ws RX0 TX0 13, w ∈ wsX0_weightOfAll := by decide +kernel
theorem kX0_weightOfAll_1 : Cond.fieldLink RX0 24 "BeamSeats$Island" "size" "I" ∈ wsX0_weightOfAll := List.mem_of_getElem? (i := 1) (by decide +kernel)
def f_X0_weightOfAll_L4 (N : Nat) (F : Nat → Nat → Int32) : Nat → Int32 → Int32 → Option (Int32 × Int32)
  | 0, _, _ => none
  | k + 1, v1, v2 =>
    if (F 0 4) ≤ v2 then
      some (v1, v2)
    else
      q_bd (f_X0_isOn N F v2) (fun r_5 =>
      if r_5 = 0 then
        q_let (v2 + 1) (fun x_8 =>
        f_X0_weightOfAll_L4 N F k v1 x_8)
      else
        q_bd (f_X0_weightOf N F v2) (fun r_9 =>
        q_let (v1 + r_9) (fun x_11 =>
        q_let (v2 + 1) (fun x_12 =>
        f_X0_weightOfAll_L4 N F k x_11 x_12))))
def f_X0_weightOfAll (N : Nat) (F : Nat → Nat → Int32) : Option (Int32) :=
  q_bd2 (f_X0_weightOfAll_L4 N F N (0 : Int32) (0 : Int32)) (fun x_2 x_3 =>
  some x_2)
set_option maxHeartbeats 4000000 in
set_option maxRecDepth 100000 in
theorem c_X0_weightOfAll (l : Launch) (D : va_G) (y : Nat → ClassId) (t : Nat → Nat) (q : Nat → Nat) (sz N : Nat) (F : Nat → Nat → Int32) (res : Int32) (h : f_X0_weightOfAll N F = some res) : Met l yX0_weightOfAll wsX0_weightOfAll ({ frames := 1, cells := 0, slots := 0, locals := 22 } : Room) (pPre D y t [.ref (q 0)] (wI y q F) sz) (pQi D y res (wI y q F) (va_A (wI y q F) sz)) 0 0 (va_A (wI y q F) sz) := by
  refine q_start (Qc := (fun A => pQi D y res (wI y q F) A)) (cc := cX0_weightOfAll) (maxL := 3) (ret := (some .int)) (by decide) rfl (Nat.le_of_ble_eq_true rfl) ?_
  intro p e s m below meth c A ls hx hb hr hts hown hlocks hmn hml hP hK hZ hD hA hS hl
  have hl : lv_has ls 3 [(0, .ref (q 0))] := hl
  have hown : s.vm.findClass RX0 = some m.cls := hown
  unfold f_X0_weightOfAll at h
  refine lv_iconst (v := 0) hx hb dX0_weightOfAll_0 (by decide) ?_
  refine lv_istore_n (lv' := [(1, .int (0 : Int32)), (0, .ref (q 0))]) hx hb dX0_weightOfAll_1 rfl hl (by decide) rfl (fun ls hl => ?_)
  refine lv_iconst (v := 0) hx hb dX0_weightOfAll_2 (by decide) ?_
  refine lv_istore_n (lv' := [(2, .int (0 : Int32)), (1, .int (0 : Int32)), (0, .ref (q 0))]) hx hb dX0_weightOfAll_3 rfl hl (by decide) rfl (fun ls hl => ?_)
  obtain ⟨x_2, x_3, hL1, h⟩ := q_bd2_ok h
  have K4_1 : ∀ (H : Heap) (locs : List Loc) (ls : Array Slot), va_P D vwCl (wI y q F) H → va_D A (wI y q F) → va_S A s.heap H locs → lv_has ls 3 [(0, .ref (q 0)), (1, .int x_2), (2, .int x_3)] → W p l e ({ frames := 1, cells := 0, slots := 0, locals := 22 } : Room) s m ([.ref (q 0)] : List Value).toArray below meth c H locs 0 0 (MQ below (pQi D y res (wI y q F) A) ([.ref (q 0)] : List Value).toArray s 0 0 A) (F0 m 34 ls []) := by
    intro H locs ls hP hD hS hl
    refine lv_iload_n hx hb dX0_weightOfAll_34 rfl (lv_at hl 1 rfl) ?_
    have e9 := Option.some.inj h
    exact q_iret hx hb hr hlocks hK hP hD hS dX0_weightOfAll_35 (by first | rw [← e9] | rfl) (by first | rw [← e9] | rfl)
  have L4_1 : ∀ (F : Nat → Nat → Int32) (k : Nat) (v1 : Int32) (v2 : Int32), (∀ (H : Heap) (locs : List Loc) (ls : Array Slot), va_P D vwCl (wI y q F) H → va_D A (wI y q F) → va_S A s.heap H locs → lv_has ls 3 [(0, .ref (q 0)), (1, .int x_2), (2, .int x_3)] → W p l e ({ frames := 1, cells := 0, slots := 0, locals := 22 } : Room) s m ([.ref (q 0)] : List Value).toArray below meth c H locs 0 0 (MQ below (pQi D y res (wI y q F) A) ([.ref (q 0)] : List Value).toArray s 0 0 A) (F0 m 34 ls [])) → ∀ (H : Heap) (locs : List Loc) (ls : Array Slot), va_P D vwCl (wI y q F) H → va_D A (wI y q F) → va_S A s.heap H locs → lv_has ls 3 [(0, .ref (q 0)), (1, .int v1), (2, .int v2)] → f_X0_weightOfAll_L4 N F k v1 v2 = some (x_2, x_3) → W p l e ({ frames := 1, cells := 0, slots := 0, locals := 22 } : Room) s m ([.ref (q 0)] : List Value).toArray below meth c H locs 0 0 (MQ below (pQi D y res (wI y q F) A) ([.ref (q 0)] : List Value).toArray s 0 0 A) (F0 m 4 ls []) := by
    intro F k
    induction k with
    | zero =>
      intro v1 v2 K4_1 H locs ls hP hD hS hl h
      have h : (none : Option (Int32 × Int32)) = some _ := h
      cases h
    | succ k ih4_1 =>
      intro v1 v2 K4_1 H locs ls hP hD hS hl h
      rw [f_X0_weightOfAll_L4] at h
      refine lv_iload_n hx hb dX0_weightOfAll_4 rfl (lv_at hl 2 rfl) ?_
      refine lv_aload_n hx hb dX0_weightOfAll_5 rfl (lv_at hl 0 rfl) ?_
      refine va_get (D := D) (ci := 0) (v := .int (F 0 4)) (C := RX0) (T := TX0) (N := 13) hx hb hts uX0_weightOfAll_X0 hown hK hP 0 rfl rfl 4 (by decide) (hts _ kX0_weightOfAll_1) (fun _ h9 => h9) rfl dX0_weightOfAll_6 ?_
      refine lv_icmp_ge (tgt := 34) hx hb dX0_weightOfAll_9 (by decide) (fun c_4 => ?_) (fun c_4 => ?_)
      · have h := q_t c_4 h
        cases h
        exact K4_1 _ _ _ hP hD hS (lv_sub hl [0, 1, 2] rfl)
      · have h := q_f c_4 h
        refine lv_aload_n hx hb dX0_weightOfAll_12 rfl (lv_at hl 0 rfl) ?_
        refine lv_iload_n hx hb dX0_weightOfAll_13 rfl (lv_at hl 2 rfl) ?_
        obtain ⟨r_5, hc_6, h⟩ := q_bd_ok h
        refine q_ci (r := r_5) (va_runV (As := [.int v2]) (rest := []) ⟨hx, hb, hml, hown, hts⟩ (c_X0_isOn l D y t q _ N F v2 r_5 hc_6) (cwV 1 hts gX0_weightOfAll_X0_isOn rfl rfl rfl eX0_isOn ⟨Nat.le_of_ble_eq_true rfl, Nat.le_of_ble_eq_true rfl⟩) ⟨q_blind, (va_recv hK hP (ci := 0) (q0 := 0) rfl rfl), (q_pre hP hK hZ hD hA hS [0, 1, 2, 3, 4, 5, 6] rfl (by decide))⟩ rfl rfl hl.1 rfl (lv_room (Nat.le_of_ble_eq_true rfl)) dX0_weightOfAll_14 ⟨Nat.zero_le _, Nat.zero_le _⟩) hP hD hA hS [0, 1, 2, 3, 4, 5, 6] rfl (by decide) rfl (fun H locs hP hD hS => ?_)
        have hP : va_P D vwCl (wI y q F) H := hP
        have hD : va_D A (wI y q F) := hD
        refine lv_if_eq (tgt := 28) hx hb dX0_weightOfAll_17 (by decide) (fun c_7 => ?_) (fun c_7 => ?_)
        · have h := q_t c_7 h
          obtain ⟨x_8, ex_8, h⟩ := q_let_ok h
          refine lv_iinc (v := x_8) (lv' := [(2, .int x_8), (0, .ref (q 0)), (1, .int v1)]) hx hb dX0_weightOfAll_28 hl (k := 2) rfl (by rw [ex_8]; rfl) (by decide) rfl (fun ls hl => ?_)
          refine lv_goto (tgt := 4) hx hb dX0_weightOfAll_31 (by decide) ?_
          exact ih4_1 v1 x_8 K4_1 _ _ _ hP hD hS (lv_sub hl [1, 2, 0] rfl) h
        · have h := q_f c_7 h
          refine lv_iload_n hx hb dX0_weightOfAll_20 rfl (lv_at hl 1 rfl) ?_
          refine lv_aload_n hx hb dX0_weightOfAll_21 rfl (lv_at hl 0 rfl) ?_
          refine lv_iload_n hx hb dX0_weightOfAll_22 rfl (lv_at hl 2 rfl) ?_
          obtain ⟨r_9, hc_10, h⟩ := q_bd_ok h
          refine q_ci (r := r_9) (va_runV (As := [.int v2]) (rest := [.int v1]) ⟨hx, hb, hml, hown, hts⟩ (c_X0_weightOf l D y t q _ N F v2 r_9 hc_10) (cwV 1 hts gX0_weightOfAll_X0_weightOf rfl rfl rfl eX0_weightOf ⟨Nat.le_of_ble_eq_true rfl, Nat.le_of_ble_eq_true rfl⟩) ⟨q_blind, (va_recv hK hP (ci := 0) (q0 := 0) rfl rfl), (q_pre hP hK hZ hD hA hS [0, 1, 2, 3, 4, 5, 6] rfl (by decide))⟩ rfl rfl hl.1 rfl (lv_room (Nat.le_of_ble_eq_true rfl)) dX0_weightOfAll_23 ⟨Nat.zero_le _, Nat.zero_le _⟩) hP hD hA hS [0, 1, 2, 3, 4, 5, 6] rfl (by decide) rfl (fun H locs hP hD hS => ?_)
          have hP : va_P D vwCl (wI y q F) H := hP
          have hD : va_D A (wI y q F) := hD
          refine lv_iadd hx hb dX0_weightOfAll_26 ?_
          refine lv_topi (fun x_11 ex_11 => ?_)
          have h := q_let_at ex_11 h
          refine lv_istore_n (lv' := [(1, .int x_11), (0, .ref (q 0)), (2, .int v2)]) hx hb dX0_weightOfAll_27 rfl hl (by decide) rfl (fun ls hl => ?_)
          obtain ⟨x_12, ex_12, h⟩ := q_let_ok h
          refine lv_iinc (v := x_12) (lv' := [(2, .int x_12), (1, .int x_11), (0, .ref (q 0))]) hx hb dX0_weightOfAll_28 hl (k := 2) rfl (by rw [ex_12]; rfl) (by decide) rfl (fun ls hl => ?_)
          refine lv_goto (tgt := 4) hx hb dX0_weightOfAll_31 (by decide) ?_
          exact ih4_1 x_11 x_12 K4_1 _ _ _ hP hD hS (lv_sub hl [2, 1, 0] rfl) h
  exact L4_1 F N (0 : Int32) (0 : Int32) K4_1 _ _ _ hP hD hS (lv_sub hl [2, 1, 0] rfl) hL1
theorem eX0_weightOfAll : yX0_weightOfAll.cls = RX0 ∧ yX0_weightOfAll.cls ≠ "java/lang/invoke/MethodHandle" ∧ yX0_weightOfAll.cls ≠ "java/lang/invoke/VarHandle" ∧ (parseMethodDescriptor yX0_weightOfAll.desc).map (fun d => d.parameters.length) = some 0 := by decide +kernel
theorem kX0_bears_0 : Cond.methodLink RX0 60 Lib.Math.max.name ∈ wsX0_bears := List.mem_of_getElem? (i := 2) (by decide +kernel)
theorem kX0_bears_1 : Cond.static Lib.Math.max.name ∈ wsX0_bears := List.mem_of_getElem? (i := 3) (by decide +kernel)
theorem kX0_bears_2 : Cond.initialized "java/lang/Math" ∈ wsX0_bears := List.mem_of_getElem? (i := 4) (by decide +kernel)
theorem kX0_bears_3 : Cond.code Lib.Math.max.name Lib.Math.max.code 2 (some .int) ∈ wsX0_bears := List.mem_of_getElem? (i := 5) (by decide +kernel)
theorem uX0_bears_X0 : ∀ w ∈ u_ws RX0 TX0 13, w ∈ wsX0_bears := by decide +kernel
theorem kX0_bears_5 : Cond.fieldLink RX0 21 "BeamSeats$Island" "thick" "I" ∈ wsX0_bears := List.mem_of_getElem? (i := 1) (by decide +kernel)
def f_X0_bears (N : Nat) (F : Nat → Nat → Int32) (p1 : Int32) : Option (Int32) :=
  q_let (if (0 : Int32) < ((F 0 3) - ((2 : Int32) * p1)) then ((F 0 3) - ((2 : Int32) * p1)) else (0 : Int32)) (fun x_1 =>
  some x_1)
set_option maxHeartbeats 4000000 in
set_option maxRecDepth 100000 in
theorem c_X0_bears (l : Launch) (D : va_G) (y : Nat → ClassId) (t : Nat → Nat) (q : Nat → Nat) (sz N : Nat) (F : Nat → Nat → Int32) (p1 : Int32) (res : Int32) (h : f_X0_bears N F p1 = some res) : Met l yX0_bears wsX0_bears ({ frames := 1, cells := 0, slots := 0, locals := 21 } : Room) (pPre D y t [.ref (q 0), .int p1] (wI y q F) sz) (pQi D y res (wI y q F) (va_A (wI y q F) sz)) 0 0 (va_A (wI y q F) sz) := by
  refine q_start (Qc := (fun A => pQi D y res (wI y q F) A)) (cc := cX0_bears) (maxL := 2) (ret := (some .int)) (by decide) rfl (Nat.le_of_ble_eq_true rfl) ?_
  intro p e s m below meth c A ls hx hb hr hts hown hlocks hmn hml hP hK hZ hD hA hS hl
  have hl : lv_has ls 2 [(0, .ref (q 0)), (1, .int p1)] := hl
  have hown : s.vm.findClass RX0 = some m.cls := hown
  unfold f_X0_bears at h
  refine lv_iconst (v := 0) hx hb dX0_bears_0 (by decide) ?_
  refine lv_aload_n hx hb dX0_bears_1 rfl (lv_at hl 0 rfl) ?_
  refine va_get (D := D) (ci := 0) (v := .int (F 0 3)) (C := RX0) (T := TX0) (N := 13) hx hb hts uX0_bears_X0 hown hK hP 0 rfl rfl 3 (by decide) (hts _ kX0_bears_5) (fun _ h9 => h9) rfl dX0_bears_2 ?_
  refine lv_iconst (v := 2) hx hb dX0_bears_5 (by decide) ?_
  refine lv_iload_n hx hb dX0_bears_6 rfl (lv_at hl 1 rfl) ?_
  refine lv_imul hx hb dX0_bears_7 ?_
  refine lv_isub hx hb dX0_bears_8 ?_
  refine va_mmax hx hb (hml.trans hl.1.symm) hown (hts _ kX0_bears_0) (hts _ kX0_bears_1) (hts _ kX0_bears_2) (hts _ kX0_bears_3) (Nat.le_of_ble_eq_true rfl) (Nat.le_of_ble_eq_true rfl) (Nat.zero_le _) (Nat.zero_le _) dX0_bears_9 ?_
  refine lv_topi (fun x_1 ex_1 => ?_)
  have h := q_let_at ex_1 h
  have e9 := Option.some.inj h
  exact q_iret hx hb hr hlocks hK hP hD hS dX0_bears_12 (by first | rw [← e9] | rfl) (by first | rw [← e9] | rfl)
theorem eX0_bears : yX0_bears.cls = RX0 ∧ yX0_bears.cls ≠ "java/lang/invoke/MethodHandle" ∧ yX0_bears.cls ≠ "java/lang/invoke/VarHandle" ∧ (parseMethodDescriptor yX0_bears.desc).map (fun d => d.parameters.length) = some 1 := by decide +kernel
theorem uX0_isBorne_X0 : ∀ w ∈ u_ws RX0 TX0 13, w ∈ wsX0_isBorne := by decide +kernel
theorem kX0_isBorne_1 : Cond.fieldLink RX0 40 "BeamSeats$Island" "outs" "[I" ∈ wsX0_isBorne := List.mem_of_getElem? (i := 1) (by decide +kernel)
def f_X0_isBorne (N : Nat) (F : Nat → Nat → Int32) (p1 : Int32) : Option (Int32) :=
  q_grd p1 8 (
  q_bd (f_X0_weightAt N F (F 3 p1.toNatClampNeg)) (fun r_2 =>
  q_bd (f_X0_weightOf N F p1) (fun r_4 =>
  q_grd p1 8 (
  q_bd (f_X0_bears N F (F 3 p1.toNatClampNeg)) (fun r_7 =>
  if r_7 < (r_2 + r_4) then
    some (0 : Int32)
  else
    some (1 : Int32))))))
set_option maxHeartbeats 4000000 in
set_option maxRecDepth 100000 in
theorem c_X0_isBorne (l : Launch) (D : va_G) (y : Nat → ClassId) (t : Nat → Nat) (q : Nat → Nat) (sz N : Nat) (F : Nat → Nat → Int32) (p1 : Int32) (res : Int32) (h : f_X0_isBorne N F p1 = some res) : Met l yX0_isBorne wsX0_isBorne ({ frames := 2, cells := 0, slots := 0, locals := 45 } : Room) (pPre D y t [.ref (q 0), .int p1] (wI y q F) sz) (pQi D y res (wI y q F) (va_A (wI y q F) sz)) 0 0 (va_A (wI y q F) sz) := by
  refine q_start (Qc := (fun A => pQi D y res (wI y q F) A)) (cc := cX0_isBorne) (maxL := 2) (ret := (some .boolean)) (by decide) rfl (Nat.le_of_ble_eq_true rfl) ?_
  intro p e s m below meth c A ls hx hb hr hts hown hlocks hmn hml hP hK hZ hD hA hS hl
  have hl : lv_has ls 2 [(0, .ref (q 0)), (1, .int p1)] := hl
  have hown : s.vm.findClass RX0 = some m.cls := hown
  unfold f_X0_isBorne at h
  refine lv_aload_n hx hb dX0_isBorne_0 rfl (lv_at hl 0 rfl) ?_
  refine lv_aload_n hx hb dX0_isBorne_1 rfl (lv_at hl 0 rfl) ?_
  refine va_get (D := D) (ci := 0) (v := .ref (q 3)) (C := RX0) (T := TX0) (N := 13) hx hb hts uX0_isBorne_X0 hown hK hP 0 rfl rfl 9 (by decide) (hts _ kX0_isBorne_1) (fun _ h9 => h9) rfl dX0_isBorne_2 ?_
  refine lv_iload_n hx hb dX0_isBorne_5 rfl (lv_at hl 1 rfl) ?_
  obtain ⟨z_1, h⟩ := q_grd_ok h
  refine va_iald hx hb hK hP 3 0 rfl rfl z_1 dX0_isBorne_6 ?_
  obtain ⟨r_2, hc_3, h⟩ := q_bd_ok h
  refine q_ci (r := r_2) (va_runV (As := [.int (F 3 p1.toNatClampNeg)]) (rest := []) ⟨hx, hb, hml, hown, hts⟩ (c_X0_weightAt l D y t q _ N F (F 3 p1.toNatClampNeg) r_2 hc_3) (cwV 1 hts gX0_isBorne_X0_weightAt rfl rfl rfl eX0_weightAt ⟨Nat.le_of_ble_eq_true rfl, Nat.le_of_ble_eq_true rfl⟩) ⟨q_blind, (va_recv hK hP (ci := 0) (q0 := 0) rfl rfl), (q_pre hP hK hZ hD hA hS [0, 1, 2, 3, 4, 5, 6] rfl (by decide))⟩ rfl rfl hl.1 rfl (lv_room (Nat.le_of_ble_eq_true rfl)) dX0_isBorne_7 ⟨Nat.zero_le _, Nat.zero_le _⟩) hP hD hA hS [0, 1, 2, 3, 4, 5, 6] rfl (by decide) rfl (fun H locs hP hD hS => ?_)
  have hP : va_P D vwCl (wI y q F) H := hP
  have hD : va_D A (wI y q F) := hD
  refine lv_aload_n hx hb dX0_isBorne_10 rfl (lv_at hl 0 rfl) ?_
  refine lv_iload_n hx hb dX0_isBorne_11 rfl (lv_at hl 1 rfl) ?_
  obtain ⟨r_4, hc_5, h⟩ := q_bd_ok h
  refine q_ci (r := r_4) (va_runV (As := [.int p1]) (rest := [.int r_2]) ⟨hx, hb, hml, hown, hts⟩ (c_X0_weightOf l D y t q _ N F p1 r_4 hc_5) (cwV 1 hts gX0_isBorne_X0_weightOf rfl rfl rfl eX0_weightOf ⟨Nat.le_of_ble_eq_true rfl, Nat.le_of_ble_eq_true rfl⟩) ⟨q_blind, (va_recv hK hP (ci := 0) (q0 := 0) rfl rfl), (q_pre hP hK hZ hD hA hS [0, 1, 2, 3, 4, 5, 6] rfl (by decide))⟩ rfl rfl hl.1 rfl (lv_room (Nat.le_of_ble_eq_true rfl)) dX0_isBorne_12 ⟨Nat.zero_le _, Nat.zero_le _⟩) hP hD hA hS [0, 1, 2, 3, 4, 5, 6] rfl (by decide) rfl (fun H locs hP hD hS => ?_)
  have hP : va_P D vwCl (wI y q F) H := hP
  have hD : va_D A (wI y q F) := hD
  refine lv_iadd hx hb dX0_isBorne_15 ?_
  refine lv_aload_n hx hb dX0_isBorne_16 rfl (lv_at hl 0 rfl) ?_
  refine lv_aload_n hx hb dX0_isBorne_17 rfl (lv_at hl 0 rfl) ?_
  refine va_get (D := D) (ci := 0) (v := .ref (q 3)) (C := RX0) (T := TX0) (N := 13) hx hb hts uX0_isBorne_X0 hown hK hP 0 rfl rfl 9 (by decide) (hts _ kX0_isBorne_1) (fun _ h9 => h9) rfl dX0_isBorne_18 ?_
  refine lv_iload_n hx hb dX0_isBorne_21 rfl (lv_at hl 1 rfl) ?_
  obtain ⟨z_6, h⟩ := q_grd_ok h
  refine va_iald hx hb hK hP 3 0 rfl rfl z_6 dX0_isBorne_22 ?_
  obtain ⟨r_7, hc_8, h⟩ := q_bd_ok h
  refine q_ci (r := r_7) (va_runV (As := [.int (F 3 p1.toNatClampNeg)]) (rest := [.int (r_2 + r_4)]) ⟨hx, hb, hml, hown, hts⟩ (c_X0_bears l D y t q _ N F (F 3 p1.toNatClampNeg) r_7 hc_8) (cwV 1 hts gX0_isBorne_X0_bears rfl rfl rfl eX0_bears ⟨Nat.le_of_ble_eq_true rfl, Nat.le_of_ble_eq_true rfl⟩) ⟨q_blind, (va_recv hK hP (ci := 0) (q0 := 0) rfl rfl), (q_pre hP hK hZ hD hA hS [0, 1, 2, 3, 4, 5, 6] rfl (by decide))⟩ rfl rfl hl.1 rfl (lv_room (Nat.le_of_ble_eq_true rfl)) dX0_isBorne_23 ⟨Nat.zero_le _, Nat.zero_le _⟩) hP hD hA hS [0, 1, 2, 3, 4, 5, 6] rfl (by decide) rfl (fun H locs hP hD hS => ?_)
  have hP : va_P D vwCl (wI y q F) H := hP
  have hD : va_D A (wI y q F) := hD
  refine lv_icmp_gt (tgt := 33) hx hb dX0_isBorne_26 (by decide) (fun c_9 => ?_) (fun c_9 => ?_)
  · have h := q_t c_9 h
    refine lv_iconst (v := 0) hx hb dX0_isBorne_33 (by decide) ?_
    have e9 := Option.some.inj h
    exact q_zret hx hb hr hlocks hK hP hD hS dX0_isBorne_34 rfl (by first | rw [← e9] | rfl) (by first | rw [← e9] | rfl)
  · have h := q_f c_9 h
    refine lv_iconst (v := 1) hx hb dX0_isBorne_29 (by decide) ?_
    refine lv_goto (tgt := 34) hx hb dX0_isBorne_30 (by decide) ?_
    have e9 := Option.some.inj h
    exact q_zret hx hb hr hlocks hK hP hD hS dX0_isBorne_34 rfl (by first | rw [← e9] | rfl) (by first | rw [← e9] | rfl)
theorem eX0_isBorne : yX0_isBorne.cls = RX0 ∧ yX0_isBorne.cls ≠ "java/lang/invoke/MethodHandle" ∧ yX0_isBorne.cls ≠ "java/lang/invoke/VarHandle" ∧ (parseMethodDescriptor yX0_isBorne.desc).map (fun d => d.parameters.length) = some 1 := by decide +kernel
theorem uX0_getsOn_X0 : ∀ w ∈ u_ws RX0 TX0 13, w ∈ wsX0_getsOn := by decide +kernel
theorem kX0_getsOn_1 : Cond.fieldLink RX0 43 "BeamSeats$Island" "wets" "[I" ∈ wsX0_getsOn := List.mem_of_getElem? (i := 2) (by decide +kernel)
theorem kX0_getsOn_2 : Cond.fieldLink RX0 46 "BeamSeats$Island" "goals" "[I" ∈ wsX0_getsOn := List.mem_of_getElem? (i := 4) (by decide +kernel)
theorem kX0_getsOn_3 : Cond.fieldLink RX0 37 "BeamSeats$Island" "places" "[I" ∈ wsX0_getsOn := List.mem_of_getElem? (i := 3) (by decide +kernel)
theorem kX0_getsOn_4 : Cond.fieldLink RX0 27 "BeamSeats$Island" "onSet" "I" ∈ wsX0_getsOn := List.mem_of_getElem? (i := 5) (by decide +kernel)
theorem kX0_getsOn_5 : Cond.fieldLink RX0 18 "BeamSeats$Island" "speed" "I" ∈ wsX0_getsOn := List.mem_of_getElem? (i := 6) (by decide +kernel)
theorem kX0_getsOn_6 : Cond.fieldLink RX0 33 "BeamSeats$Island" "kinds" "[I" ∈ wsX0_getsOn := List.mem_of_getElem? (i := 1) (by decide +kernel)
def f_X0_getsOn (N : Nat) (F : Nat → Nat → Int32) (p1 : Int32) : Option (Int32) :=
  q_grd p1 8 (
  q_let (F 1 p1.toNatClampNeg) (fun x_2 =>
  if x_2 = 1 then
    q_grd p1 8 (
    if (F 4 p1.toNatClampNeg) ≤ 0 then
      some (0 : Int32)
    else
      some (1 : Int32))
  else
    if x_2 = 2 then
      q_grd p1 8 (
      q_grd p1 8 (
      if (F 2 p1.toNatClampNeg) = (F 5 p1.toNatClampNeg) then
        some (0 : Int32)
      else
        some (1 : Int32)))
    else
      if x_2 = 3 then
        q_bd (f_J6_bitCount_0f7a4 N (F 0 5)) (fun r_11 =>
        if (3 : Int32) ≤ r_11 then
          some (0 : Int32)
        else
          some (1 : Int32))
      else
        if x_2 = 4 then
          q_grd p1 8 (
          if (F 4 p1.toNatClampNeg) ≤ 0 then
            some (0 : Int32)
          else
            if (5 : Int32) < (F 0 2) then
              some (0 : Int32)
            else
              some (1 : Int32))
        else
          if x_2 = 5 then
            q_grd p1 8 (
            q_grd p1 8 (
            if (F 2 p1.toNatClampNeg) = (F 5 p1.toNatClampNeg) then
              some (0 : Int32)
            else
              if (F 0 5) = 0 then
                some (0 : Int32)
              else
                some (1 : Int32)))
          else
            some (0 : Int32)))
set_option maxHeartbeats 4000000 in
set_option maxRecDepth 100000 in
theorem c_X0_getsOn (l : Launch) (D : va_G) (y : Nat → ClassId) (t : Nat → Nat) (q : Nat → Nat) (sz N : Nat) (F : Nat → Nat → Int32) (p1 : Int32) (res : Int32) (h : f_X0_getsOn N F p1 = some res) : Met l yX0_getsOn wsX0_getsOn ({ frames := 1, cells := 0, slots := 0, locals := 20 } : Room) (pPre D y t [.ref (q 0), .int p1] (wI y q F) sz) (pQi D y res (wI y q F) (va_A (wI y q F) sz)) 0 0 (va_A (wI y q F) sz) := by
  refine q_start (Qc := (fun A => pQi D y res (wI y q F) A)) (cc := cX0_getsOn) (maxL := 2) (ret := (some .boolean)) (by decide) rfl (Nat.le_of_ble_eq_true rfl) ?_
  intro p e s m below meth c A ls hx hb hr hts hown hlocks hmn hml hP hK hZ hD hA hS hl
  have hl : lv_has ls 2 [(0, .ref (q 0)), (1, .int p1)] := hl
  have hown : s.vm.findClass RX0 = some m.cls := hown
  unfold f_X0_getsOn at h
  refine lv_aload_n hx hb dX0_getsOn_0 rfl (lv_at hl 0 rfl) ?_
  refine va_get (D := D) (ci := 0) (v := .ref (q 1)) (C := RX0) (T := TX0) (N := 13) hx hb hts uX0_getsOn_X0 hown hK hP 0 rfl rfl 7 (by decide) (hts _ kX0_getsOn_6) (fun _ h9 => h9) rfl dX0_getsOn_1 ?_
  refine lv_iload_n hx hb dX0_getsOn_4 rfl (lv_at hl 1 rfl) ?_
  obtain ⟨z_1, h⟩ := q_grd_ok h
  refine va_iald hx hb hK hP 1 0 rfl rfl z_1 dX0_getsOn_5 ?_
  refine lv_topi (fun x_2 ex_2 => ?_)
  have h := q_let_at ex_2 h
  by_cases c_3 : x_2 = 1
  · have h := q_t c_3 h
    refine lv_tableIn (tgt := 40) (off := 34) hx hb dX0_getsOn_6 (by rw [c_3]; decide) (by rw [c_3]; decide) (by rw [c_3]; rfl) (by decide) ?_
    refine lv_aload_n hx hb dX0_getsOn_40 rfl (lv_at hl 0 rfl) ?_
    refine va_get (D := D) (ci := 0) (v := .ref (q 4)) (C := RX0) (T := TX0) (N := 13) hx hb hts uX0_getsOn_X0 hown hK hP 0 rfl rfl 10 (by decide) (hts _ kX0_getsOn_1) (fun _ h9 => h9) rfl dX0_getsOn_41 ?_
    refine lv_iload_n hx hb dX0_getsOn_44 rfl (lv_at hl 1 rfl) ?_
    obtain ⟨z_4, h⟩ := q_grd_ok h
    refine va_iald hx hb hK hP 4 0 rfl rfl z_4 dX0_getsOn_45 ?_
    refine lv_if_le (tgt := 53) hx hb dX0_getsOn_46 (by decide) (fun c_5 => ?_) (fun c_5 => ?_)
    · have h := q_t c_5 h
      refine lv_iconst (v := 0) hx hb dX0_getsOn_53 (by decide) ?_
      have e9 := Option.some.inj h
      exact q_zret hx hb hr hlocks hK hP hD hS dX0_getsOn_54 rfl (by first | rw [← e9] | rfl) (by first | rw [← e9] | rfl)
    · have h := q_f c_5 h
      refine lv_iconst (v := 1) hx hb dX0_getsOn_49 (by decide) ?_
      refine lv_goto (tgt := 54) hx hb dX0_getsOn_50 (by decide) ?_
      have e9 := Option.some.inj h
      exact q_zret hx hb hr hlocks hK hP hD hS dX0_getsOn_54 rfl (by first | rw [← e9] | rfl) (by first | rw [← e9] | rfl)
  · have h := q_f c_3 h
    by_cases c_6 : x_2 = 2
    · have h := q_t c_6 h
      refine lv_tableIn (tgt := 55) (off := 49) hx hb dX0_getsOn_6 (by rw [c_6]; decide) (by rw [c_6]; decide) (by rw [c_6]; rfl) (by decide) ?_
      refine lv_aload_n hx hb dX0_getsOn_55 rfl (lv_at hl 0 rfl) ?_
      refine va_get (D := D) (ci := 0) (v := .ref (q 2)) (C := RX0) (T := TX0) (N := 13) hx hb hts uX0_getsOn_X0 hown hK hP 0 rfl rfl 8 (by decide) (hts _ kX0_getsOn_3) (fun _ h9 => h9) rfl dX0_getsOn_56 ?_
      refine lv_iload_n hx hb dX0_getsOn_59 rfl (lv_at hl 1 rfl) ?_
      obtain ⟨z_7, h⟩ := q_grd_ok h
      refine va_iald hx hb hK hP 2 0 rfl rfl z_7 dX0_getsOn_60 ?_
      refine lv_aload_n hx hb dX0_getsOn_61 rfl (lv_at hl 0 rfl) ?_
      refine va_get (D := D) (ci := 0) (v := .ref (q 5)) (C := RX0) (T := TX0) (N := 13) hx hb hts uX0_getsOn_X0 hown hK hP 0 rfl rfl 11 (by decide) (hts _ kX0_getsOn_2) (fun _ h9 => h9) rfl dX0_getsOn_62 ?_
      refine lv_iload_n hx hb dX0_getsOn_65 rfl (lv_at hl 1 rfl) ?_
      obtain ⟨z_8, h⟩ := q_grd_ok h
      refine va_iald hx hb hK hP 5 0 rfl rfl z_8 dX0_getsOn_66 ?_
      refine lv_icmp_eq (tgt := 74) hx hb dX0_getsOn_67 (by decide) (fun c_9 => ?_) (fun c_9 => ?_)
      · have h := q_t c_9 h
        refine lv_iconst (v := 0) hx hb dX0_getsOn_74 (by decide) ?_
        have e9 := Option.some.inj h
        exact q_zret hx hb hr hlocks hK hP hD hS dX0_getsOn_75 rfl (by first | rw [← e9] | rfl) (by first | rw [← e9] | rfl)
      · have h := q_f c_9 h
        refine lv_iconst (v := 1) hx hb dX0_getsOn_70 (by decide) ?_
        refine lv_goto (tgt := 75) hx hb dX0_getsOn_71 (by decide) ?_
        have e9 := Option.some.inj h
        exact q_zret hx hb hr hlocks hK hP hD hS dX0_getsOn_75 rfl (by first | rw [← e9] | rfl) (by first | rw [← e9] | rfl)
    · have h := q_f c_6 h
      by_cases c_10 : x_2 = 3
      · have h := q_t c_10 h
        refine lv_tableIn (tgt := 76) (off := 70) hx hb dX0_getsOn_6 (by rw [c_10]; decide) (by rw [c_10]; decide) (by rw [c_10]; rfl) (by decide) ?_
        refine lv_aload_n hx hb dX0_getsOn_76 rfl (lv_at hl 0 rfl) ?_
        refine va_get (D := D) (ci := 0) (v := .int (F 0 5)) (C := RX0) (T := TX0) (N := 13) hx hb hts uX0_getsOn_X0 hown hK hP 0 rfl rfl 5 (by decide) (hts _ kX0_getsOn_4) (fun _ h9 => h9) rfl dX0_getsOn_77 ?_
        obtain ⟨r_11, hc_12, h⟩ := q_bd_ok h
        refine q_ci (r := r_11) (va_runS (As := [.int (F 0 5)]) (rest := []) ⟨hx, hb, hml, hown, hts⟩ (c_J6_bitCount_0f7a4 l D y t q _ N (F 0 5) r_11 hc_12) (va_cwS 1 hts gX0_getsOn_J6_bitCount_0f7a4 rfl rfl rfl eJ6_bitCount_0f7a4 ⟨Nat.le_of_ble_eq_true rfl, Nat.le_of_ble_eq_true rfl⟩) ⟨q_blind, (q_pre hP hK hZ hD hA hS [] rfl (by decide))⟩ rfl rfl hl.1 rfl (lv_room (Nat.le_of_ble_eq_true rfl)) dX0_getsOn_80 ⟨Nat.zero_le _, Nat.zero_le _⟩) hP hD hA hS [] rfl (by decide) rfl (fun H locs hP hD hS => ?_)
        have hP : va_P D vwCl (wI y q F) H := hP
        have hD : va_D A (wI y q F) := hD
        refine lv_iconst (v := 3) hx hb dX0_getsOn_83 (by decide) ?_
        refine lv_icmp_ge (tgt := 91) hx hb dX0_getsOn_84 (by decide) (fun c_13 => ?_) (fun c_13 => ?_)
        · have h := q_t c_13 h
          refine lv_iconst (v := 0) hx hb dX0_getsOn_91 (by decide) ?_
          have e9 := Option.some.inj h
          exact q_zret hx hb hr hlocks hK hP hD hS dX0_getsOn_92 rfl (by first | rw [← e9] | rfl) (by first | rw [← e9] | rfl)
        · have h := q_f c_13 h
          refine lv_iconst (v := 1) hx hb dX0_getsOn_87 (by decide) ?_
          refine lv_goto (tgt := 92) hx hb dX0_getsOn_88 (by decide) ?_
          have e9 := Option.some.inj h
          exact q_zret hx hb hr hlocks hK hP hD hS dX0_getsOn_92 rfl (by first | rw [← e9] | rfl) (by first | rw [← e9] | rfl)
      · have h := q_f c_10 h
        by_cases c_14 : x_2 = 4
        · have h := q_t c_14 h
          refine lv_tableIn (tgt := 93) (off := 87) hx hb dX0_getsOn_6 (by rw [c_14]; decide) (by rw [c_14]; decide) (by rw [c_14]; rfl) (by decide) ?_
          refine lv_aload_n hx hb dX0_getsOn_93 rfl (lv_at hl 0 rfl) ?_
          refine va_get (D := D) (ci := 0) (v := .ref (q 4)) (C := RX0) (T := TX0) (N := 13) hx hb hts uX0_getsOn_X0 hown hK hP 0 rfl rfl 10 (by decide) (hts _ kX0_getsOn_1) (fun _ h9 => h9) rfl dX0_getsOn_94 ?_
          refine lv_iload_n hx hb dX0_getsOn_97 rfl (lv_at hl 1 rfl) ?_
          obtain ⟨z_15, h⟩ := q_grd_ok h
          refine va_iald hx hb hK hP 4 0 rfl rfl z_15 dX0_getsOn_98 ?_
          refine lv_if_le (tgt := 114) hx hb dX0_getsOn_99 (by decide) (fun c_16 => ?_) (fun c_16 => ?_)
          · have h := q_t c_16 h
            refine lv_iconst (v := 0) hx hb dX0_getsOn_114 (by decide) ?_
            have e9 := Option.some.inj h
            exact q_zret hx hb hr hlocks hK hP hD hS dX0_getsOn_115 rfl (by first | rw [← e9] | rfl) (by first | rw [← e9] | rfl)
          · have h := q_f c_16 h
            refine lv_aload_n hx hb dX0_getsOn_102 rfl (lv_at hl 0 rfl) ?_
            refine va_get (D := D) (ci := 0) (v := .int (F 0 2)) (C := RX0) (T := TX0) (N := 13) hx hb hts uX0_getsOn_X0 hown hK hP 0 rfl rfl 2 (by decide) (hts _ kX0_getsOn_5) (fun _ h9 => h9) rfl dX0_getsOn_103 ?_
            refine lv_iconst (v := 5) hx hb dX0_getsOn_106 (by decide) ?_
            refine lv_icmp_gt (tgt := 114) hx hb dX0_getsOn_107 (by decide) (fun c_17 => ?_) (fun c_17 => ?_)
            · have h := q_t c_17 h
              refine lv_iconst (v := 0) hx hb dX0_getsOn_114 (by decide) ?_
              have e9 := Option.some.inj h
              exact q_zret hx hb hr hlocks hK hP hD hS dX0_getsOn_115 rfl (by first | rw [← e9] | rfl) (by first | rw [← e9] | rfl)
            · have h := q_f c_17 h
              refine lv_iconst (v := 1) hx hb dX0_getsOn_110 (by decide) ?_
              refine lv_goto (tgt := 115) hx hb dX0_getsOn_111 (by decide) ?_
              have e9 := Option.some.inj h
              exact q_zret hx hb hr hlocks hK hP hD hS dX0_getsOn_115 rfl (by first | rw [← e9] | rfl) (by first | rw [← e9] | rfl)
        · have h := q_f c_14 h
          by_cases c_18 : x_2 = 5
          · have h := q_t c_18 h
            refine lv_tableIn (tgt := 116) (off := 110) hx hb dX0_getsOn_6 (by rw [c_18]; decide) (by rw [c_18]; decide) (by rw [c_18]; rfl) (by decide) ?_
            refine lv_aload_n hx hb dX0_getsOn_116 rfl (lv_at hl 0 rfl) ?_
            refine va_get (D := D) (ci := 0) (v := .ref (q 2)) (C := RX0) (T := TX0) (N := 13) hx hb hts uX0_getsOn_X0 hown hK hP 0 rfl rfl 8 (by decide) (hts _ kX0_getsOn_3) (fun _ h9 => h9) rfl dX0_getsOn_117 ?_
            refine lv_iload_n hx hb dX0_getsOn_120 rfl (lv_at hl 1 rfl) ?_
            obtain ⟨z_19, h⟩ := q_grd_ok h
            refine va_iald hx hb hK hP 2 0 rfl rfl z_19 dX0_getsOn_121 ?_
            refine lv_aload_n hx hb dX0_getsOn_122 rfl (lv_at hl 0 rfl) ?_
            refine va_get (D := D) (ci := 0) (v := .ref (q 5)) (C := RX0) (T := TX0) (N := 13) hx hb hts uX0_getsOn_X0 hown hK hP 0 rfl rfl 11 (by decide) (hts _ kX0_getsOn_2) (fun _ h9 => h9) rfl dX0_getsOn_123 ?_
            refine lv_iload_n hx hb dX0_getsOn_126 rfl (lv_at hl 1 rfl) ?_
            obtain ⟨z_20, h⟩ := q_grd_ok h
            refine va_iald hx hb hK hP 5 0 rfl rfl z_20 dX0_getsOn_127 ?_
            refine lv_icmp_eq (tgt := 142) hx hb dX0_getsOn_128 (by decide) (fun c_21 => ?_) (fun c_21 => ?_)
            · have h := q_t c_21 h
              refine lv_iconst (v := 0) hx hb dX0_getsOn_142 (by decide) ?_
              have e9 := Option.some.inj h
              exact q_zret hx hb hr hlocks hK hP hD hS dX0_getsOn_143 rfl (by first | rw [← e9] | rfl) (by first | rw [← e9] | rfl)
            · have h := q_f c_21 h
              refine lv_aload_n hx hb dX0_getsOn_131 rfl (lv_at hl 0 rfl) ?_
              refine va_get (D := D) (ci := 0) (v := .int (F 0 5)) (C := RX0) (T := TX0) (N := 13) hx hb hts uX0_getsOn_X0 hown hK hP 0 rfl rfl 5 (by decide) (hts _ kX0_getsOn_4) (fun _ h9 => h9) rfl dX0_getsOn_132 ?_
              refine lv_if_eq (tgt := 142) hx hb dX0_getsOn_135 (by decide) (fun c_22 => ?_) (fun c_22 => ?_)
              · have h := q_t c_22 h
                refine lv_iconst (v := 0) hx hb dX0_getsOn_142 (by decide) ?_
                have e9 := Option.some.inj h
                exact q_zret hx hb hr hlocks hK hP hD hS dX0_getsOn_143 rfl (by first | rw [← e9] | rfl) (by first | rw [← e9] | rfl)
              · have h := q_f c_22 h
                refine lv_iconst (v := 1) hx hb dX0_getsOn_138 (by decide) ?_
                refine lv_goto (tgt := 143) hx hb dX0_getsOn_139 (by decide) ?_
                have e9 := Option.some.inj h
                exact q_zret hx hb hr hlocks hK hP hD hS dX0_getsOn_143 rfl (by first | rw [← e9] | rfl) (by first | rw [← e9] | rfl)
          · have h := q_f c_18 h
            have nc_3 := lv_neT c_3 (show ((1 : Int32)).toInt = 1 from by decide)
            have nc_6 := lv_neT c_6 (show ((2 : Int32)).toInt = 2 from by decide)
            have nc_10 := lv_neT c_10 (show ((3 : Int32)).toInt = 3 from by decide)
            have nc_14 := lv_neT c_14 (show ((4 : Int32)).toInt = 4 from by decide)
            have nc_18 := lv_neT c_18 (show ((5 : Int32)).toInt = 5 from by decide)
            refine lv_tableOut (tgt := 144) hx hb dX0_getsOn_6 (by omega) (by decide) ?_
            refine lv_iconst (v := 0) hx hb dX0_getsOn_144 (by decide) ?_
            have e9 := Option.some.inj h
            exact q_zret hx hb hr hlocks hK hP hD hS dX0_getsOn_145 rfl (by first | rw [← e9] | rfl) (by first | rw [← e9] | rfl)
theorem eX0_getsOn : yX0_getsOn.cls = RX0 ∧ yX0_getsOn.cls ≠ "java/lang/invoke/MethodHandle" ∧ yX0_getsOn.cls ≠ "java/lang/invoke/VarHandle" ∧ (parseMethodDescriptor yX0_getsOn.desc).map (fun d => d.parameters.length) = some 1 := by decide +kernel
theorem uX0_getsOff_X0 : ∀ w ∈ u_ws RX0 TX0 13, w ∈ wsX0_getsOff := by decide +kernel
theorem kX0_getsOff_1 : Cond.fieldLink RX0 43 "BeamSeats$Island" "wets" "[I" ∈ wsX0_getsOff := List.mem_of_getElem? (i := 2) (by decide +kernel)
theorem kX0_getsOff_2 : Cond.fieldLink RX0 46 "BeamSeats$Island" "goals" "[I" ∈ wsX0_getsOff := List.mem_of_getElem? (i := 4) (by decide +kernel)
theorem kX0_getsOff_3 : Cond.fieldLink RX0 15 "BeamSeats$Island" "bearing" "I" ∈ wsX0_getsOff := List.mem_of_getElem? (i := 3) (by decide +kernel)
theorem kX0_getsOff_4 : Cond.fieldLink RX0 27 "BeamSeats$Island" "onSet" "I" ∈ wsX0_getsOff := List.mem_of_getElem? (i := 5) (by decide +kernel)
theorem kX0_getsOff_5 : Cond.fieldLink RX0 33 "BeamSeats$Island" "kinds" "[I" ∈ wsX0_getsOff := List.mem_of_getElem? (i := 1) (by decide +kernel)
def f_X0_getsOff (N : Nat) (F : Nat → Nat → Int32) (p1 : Int32) : Option (Int32) :=
  q_grd p1 8 (
  q_let (F 1 p1.toNatClampNeg) (fun x_2 =>
  if x_2 = 1 then
    q_grd p1 8 (
    if (F 4 p1.toNatClampNeg) = 0 then
      some (1 : Int32)
    else
      some (0 : Int32))
  else
    if x_2 = 2 then
      q_grd p1 8 (
      if (F 0 1) = (F 5 p1.toNatClampNeg) then
        some (1 : Int32)
      else
        some (0 : Int32))
    else
      if x_2 = 3 then
        if (F 0 1) = (38 : Int32) then
          some (1 : Int32)
        else
          if (F 0 1) = (39 : Int32) then
            some (1 : Int32)
          else
            some (0 : Int32)
      else
        if x_2 = 4 then
          q_grd p1 8 (
          if (F 4 p1.toNatClampNeg) = 0 then
            some (1 : Int32)
          else
            if (F 0 1) < (35 : Int32) then
              some (0 : Int32)
            else
              some (1 : Int32))
        else
          if x_2 = 5 then
            q_grd p1 8 (
            if (F 0 1) = (F 5 p1.toNatClampNeg) then
              some (1 : Int32)
            else
              if (F 0 5) = ((1 : Int32) <<< (p1 &&& 31)) then
                some (1 : Int32)
              else
                some (0 : Int32))
          else
            some (0 : Int32)))
set_option maxHeartbeats 4000000 in
set_option maxRecDepth 100000 in
theorem c_X0_getsOff (l : Launch) (D : va_G) (y : Nat → ClassId) (t : Nat → Nat) (q : Nat → Nat) (sz N : Nat) (F : Nat → Nat → Int32) (p1 : Int32) (res : Int32) (h : f_X0_getsOff N F p1 = some res) : Met l yX0_getsOff wsX0_getsOff ({ frames := 0, cells := 0, slots := 0, locals := 0 } : Room) (pPre D y t [.ref (q 0), .int p1] (wI y q F) sz) (pQi D y res (wI y q F) (va_A (wI y q F) sz)) 0 0 (va_A (wI y q F) sz) := by
  refine q_start (Qc := (fun A => pQi D y res (wI y q F) A)) (cc := cX0_getsOff) (maxL := 2) (ret := (some .boolean)) (by decide) rfl (Nat.le_of_ble_eq_true rfl) ?_
  intro p e s m below meth c A ls hx hb hr hts hown hlocks hmn hml hP hK hZ hD hA hS hl
  have hl : lv_has ls 2 [(0, .ref (q 0)), (1, .int p1)] := hl
  have hown : s.vm.findClass RX0 = some m.cls := hown
  unfold f_X0_getsOff at h
  refine lv_aload_n hx hb dX0_getsOff_0 rfl (lv_at hl 0 rfl) ?_
  refine va_get (D := D) (ci := 0) (v := .ref (q 1)) (C := RX0) (T := TX0) (N := 13) hx hb hts uX0_getsOff_X0 hown hK hP 0 rfl rfl 7 (by decide) (hts _ kX0_getsOff_5) (fun _ h9 => h9) rfl dX0_getsOff_1 ?_
  refine lv_iload_n hx hb dX0_getsOff_4 rfl (lv_at hl 1 rfl) ?_
  obtain ⟨z_1, h⟩ := q_grd_ok h
  refine va_iald hx hb hK hP 1 0 rfl rfl z_1 dX0_getsOff_5 ?_
  refine lv_topi (fun x_2 ex_2 => ?_)
  have h := q_let_at ex_2 h
  by_cases c_3 : x_2 = 1
  · have h := q_t c_3 h
    refine lv_tableIn (tgt := 40) (off := 34) hx hb dX0_getsOff_6 (by rw [c_3]; decide) (by rw [c_3]; decide) (by rw [c_3]; rfl) (by decide) ?_
    refine lv_aload_n hx hb dX0_getsOff_40 rfl (lv_at hl 0 rfl) ?_
    refine va_get (D := D) (ci := 0) (v := .ref (q 4)) (C := RX0) (T := TX0) (N := 13) hx hb hts uX0_getsOff_X0 hown hK hP 0 rfl rfl 10 (by decide) (hts _ kX0_getsOff_1) (fun _ h9 => h9) rfl dX0_getsOff_41 ?_
    refine lv_iload_n hx hb dX0_getsOff_44 rfl (lv_at hl 1 rfl) ?_
    obtain ⟨z_4, h⟩ := q_grd_ok h
    refine va_iald hx hb hK hP 4 0 rfl rfl z_4 dX0_getsOff_45 ?_
    refine lv_if_ne (tgt := 53) hx hb dX0_getsOff_46 (by decide) (fun c_5 => ?_) (fun c_5 => ?_)
    · have h := q_f c_5 h
      refine lv_iconst (v := 0) hx hb dX0_getsOff_53 (by decide) ?_
      have e9 := Option.some.inj h
      exact q_zret hx hb hr hlocks hK hP hD hS dX0_getsOff_54 rfl (by first | rw [← e9] | rfl) (by first | rw [← e9] | rfl)
    · have h := q_t c_5 h
      refine lv_iconst (v := 1) hx hb dX0_getsOff_49 (by decide) ?_
      refine lv_goto (tgt := 54) hx hb dX0_getsOff_50 (by decide) ?_
      have e9 := Option.some.inj h
      exact q_zret hx hb hr hlocks hK hP hD hS dX0_getsOff_54 rfl (by first | rw [← e9] | rfl) (by first | rw [← e9] | rfl)
  · have h := q_f c_3 h
    by_cases c_6 : x_2 = 2
    · have h := q_t c_6 h
      refine lv_tableIn (tgt := 55) (off := 49) hx hb dX0_getsOff_6 (by rw [c_6]; decide) (by rw [c_6]; decide) (by rw [c_6]; rfl) (by decide) ?_
      refine lv_aload_n hx hb dX0_getsOff_55 rfl (lv_at hl 0 rfl) ?_
      refine va_get (D := D) (ci := 0) (v := .int (F 0 1)) (C := RX0) (T := TX0) (N := 13) hx hb hts uX0_getsOff_X0 hown hK hP 0 rfl rfl 1 (by decide) (hts _ kX0_getsOff_3) (fun _ h9 => h9) rfl dX0_getsOff_56 ?_
      refine lv_aload_n hx hb dX0_getsOff_59 rfl (lv_at hl 0 rfl) ?_
      refine va_get (D := D) (ci := 0) (v := .ref (q 5)) (C := RX0) (T := TX0) (N := 13) hx hb hts uX0_getsOff_X0 hown hK hP 0 rfl rfl 11 (by decide) (hts _ kX0_getsOff_2) (fun _ h9 => h9) rfl dX0_getsOff_60 ?_
      refine lv_iload_n hx hb dX0_getsOff_63 rfl (lv_at hl 1 rfl) ?_
      obtain ⟨z_7, h⟩ := q_grd_ok h
      refine va_iald hx hb hK hP 5 0 rfl rfl z_7 dX0_getsOff_64 ?_
      refine lv_icmp_ne (tgt := 72) hx hb dX0_getsOff_65 (by decide) (fun c_8 => ?_) (fun c_8 => ?_)
      · have h := q_f c_8 h
        refine lv_iconst (v := 0) hx hb dX0_getsOff_72 (by decide) ?_
        have e9 := Option.some.inj h
        exact q_zret hx hb hr hlocks hK hP hD hS dX0_getsOff_73 rfl (by first | rw [← e9] | rfl) (by first | rw [← e9] | rfl)
      · have h := q_t c_8 h
        refine lv_iconst (v := 1) hx hb dX0_getsOff_68 (by decide) ?_
        refine lv_goto (tgt := 73) hx hb dX0_getsOff_69 (by decide) ?_
        have e9 := Option.some.inj h
        exact q_zret hx hb hr hlocks hK hP hD hS dX0_getsOff_73 rfl (by first | rw [← e9] | rfl) (by first | rw [← e9] | rfl)
    · have h := q_f c_6 h
      by_cases c_9 : x_2 = 3
      · have h := q_t c_9 h
        refine lv_tableIn (tgt := 74) (off := 68) hx hb dX0_getsOff_6 (by rw [c_9]; decide) (by rw [c_9]; decide) (by rw [c_9]; rfl) (by decide) ?_
        refine lv_aload_n hx hb dX0_getsOff_74 rfl (lv_at hl 0 rfl) ?_
        refine va_get (D := D) (ci := 0) (v := .int (F 0 1)) (C := RX0) (T := TX0) (N := 13) hx hb hts uX0_getsOff_X0 hown hK hP 0 rfl rfl 1 (by decide) (hts _ kX0_getsOff_3) (fun _ h9 => h9) rfl dX0_getsOff_75 ?_
        refine lv_bipush (v := 38) hx hb dX0_getsOff_78 (by decide) ?_
        refine lv_icmp_eq (tgt := 92) hx hb dX0_getsOff_80 (by decide) (fun c_10 => ?_) (fun c_10 => ?_)
        · have h := q_t c_10 h
          refine lv_iconst (v := 1) hx hb dX0_getsOff_92 (by decide) ?_
          refine lv_goto (tgt := 97) hx hb dX0_getsOff_93 (by decide) ?_
          have e9 := Option.some.inj h
          exact q_zret hx hb hr hlocks hK hP hD hS dX0_getsOff_97 rfl (by first | rw [← e9] | rfl) (by first | rw [← e9] | rfl)
        · have h := q_f c_10 h
          refine lv_aload_n hx hb dX0_getsOff_83 rfl (lv_at hl 0 rfl) ?_
          refine va_get (D := D) (ci := 0) (v := .int (F 0 1)) (C := RX0) (T := TX0) (N := 13) hx hb hts uX0_getsOff_X0 hown hK hP 0 rfl rfl 1 (by decide) (hts _ kX0_getsOff_3) (fun _ h9 => h9) rfl dX0_getsOff_84 ?_
          refine lv_bipush (v := 39) hx hb dX0_getsOff_87 (by decide) ?_
          refine lv_icmp_ne (tgt := 96) hx hb dX0_getsOff_89 (by decide) (fun c_11 => ?_) (fun c_11 => ?_)
          · have h := q_f c_11 h
            refine lv_iconst (v := 0) hx hb dX0_getsOff_96 (by decide) ?_
            have e9 := Option.some.inj h
            exact q_zret hx hb hr hlocks hK hP hD hS dX0_getsOff_97 rfl (by first | rw [← e9] | rfl) (by first | rw [← e9] | rfl)
          · have h := q_t c_11 h
            refine lv_iconst (v := 1) hx hb dX0_getsOff_92 (by decide) ?_
            refine lv_goto (tgt := 97) hx hb dX0_getsOff_93 (by decide) ?_
            have e9 := Option.some.inj h
            exact q_zret hx hb hr hlocks hK hP hD hS dX0_getsOff_97 rfl (by first | rw [← e9] | rfl) (by first | rw [← e9] | rfl)
      · have h := q_f c_9 h
        by_cases c_12 : x_2 = 4
        · have h := q_t c_12 h
          refine lv_tableIn (tgt := 98) (off := 92) hx hb dX0_getsOff_6 (by rw [c_12]; decide) (by rw [c_12]; decide) (by rw [c_12]; rfl) (by decide) ?_
          refine lv_aload_n hx hb dX0_getsOff_98 rfl (lv_at hl 0 rfl) ?_
          refine va_get (D := D) (ci := 0) (v := .ref (q 4)) (C := RX0) (T := TX0) (N := 13) hx hb hts uX0_getsOff_X0 hown hK hP 0 rfl rfl 10 (by decide) (hts _ kX0_getsOff_1) (fun _ h9 => h9) rfl dX0_getsOff_99 ?_
          refine lv_iload_n hx hb dX0_getsOff_102 rfl (lv_at hl 1 rfl) ?_
          obtain ⟨z_13, h⟩ := q_grd_ok h
          refine va_iald hx hb hK hP 4 0 rfl rfl z_13 dX0_getsOff_103 ?_
          refine lv_if_eq (tgt := 116) hx hb dX0_getsOff_104 (by decide) (fun c_14 => ?_) (fun c_14 => ?_)
          · have h := q_t c_14 h
            refine lv_iconst (v := 1) hx hb dX0_getsOff_116 (by decide) ?_
            refine lv_goto (tgt := 121) hx hb dX0_getsOff_117 (by decide) ?_
            have e9 := Option.some.inj h
            exact q_zret hx hb hr hlocks hK hP hD hS dX0_getsOff_121 rfl (by first | rw [← e9] | rfl) (by first | rw [← e9] | rfl)
          · have h := q_f c_14 h
            refine lv_aload_n hx hb dX0_getsOff_107 rfl (lv_at hl 0 rfl) ?_
            refine va_get (D := D) (ci := 0) (v := .int (F 0 1)) (C := RX0) (T := TX0) (N := 13) hx hb hts uX0_getsOff_X0 hown hK hP 0 rfl rfl 1 (by decide) (hts _ kX0_getsOff_3) (fun _ h9 => h9) rfl dX0_getsOff_108 ?_
            refine lv_bipush (v := 35) hx hb dX0_getsOff_111 (by decide) ?_
            refine lv_icmp_lt (tgt := 120) hx hb dX0_getsOff_113 (by decide) (fun c_15 => ?_) (fun c_15 => ?_)
            · have h := q_t c_15 h
              refine lv_iconst (v := 0) hx hb dX0_getsOff_120 (by decide) ?_
              have e9 := Option.some.inj h
              exact q_zret hx hb hr hlocks hK hP hD hS dX0_getsOff_121 rfl (by first | rw [← e9] | rfl) (by first | rw [← e9] | rfl)
            · have h := q_f c_15 h
              refine lv_iconst (v := 1) hx hb dX0_getsOff_116 (by decide) ?_
              refine lv_goto (tgt := 121) hx hb dX0_getsOff_117 (by decide) ?_
              have e9 := Option.some.inj h
              exact q_zret hx hb hr hlocks hK hP hD hS dX0_getsOff_121 rfl (by first | rw [← e9] | rfl) (by first | rw [← e9] | rfl)
        · have h := q_f c_12 h
          by_cases c_16 : x_2 = 5
          · have h := q_t c_16 h
            refine lv_tableIn (tgt := 122) (off := 116) hx hb dX0_getsOff_6 (by rw [c_16]; decide) (by rw [c_16]; decide) (by rw [c_16]; rfl) (by decide) ?_
            refine lv_aload_n hx hb dX0_getsOff_122 rfl (lv_at hl 0 rfl) ?_
            refine va_get (D := D) (ci := 0) (v := .int (F 0 1)) (C := RX0) (T := TX0) (N := 13) hx hb hts uX0_getsOff_X0 hown hK hP 0 rfl rfl 1 (by decide) (hts _ kX0_getsOff_3) (fun _ h9 => h9) rfl dX0_getsOff_123 ?_
            refine lv_aload_n hx hb dX0_getsOff_126 rfl (lv_at hl 0 rfl) ?_
            refine va_get (D := D) (ci := 0) (v := .ref (q 5)) (C := RX0) (T := TX0) (N := 13) hx hb hts uX0_getsOff_X0 hown hK hP 0 rfl rfl 11 (by decide) (hts _ kX0_getsOff_2) (fun _ h9 => h9) rfl dX0_getsOff_127 ?_
            refine lv_iload_n hx hb dX0_getsOff_130 rfl (lv_at hl 1 rfl) ?_
            obtain ⟨z_17, h⟩ := q_grd_ok h
            refine va_iald hx hb hK hP 5 0 rfl rfl z_17 dX0_getsOff_131 ?_
            refine lv_icmp_eq (tgt := 145) hx hb dX0_getsOff_132 (by decide) (fun c_18 => ?_) (fun c_18 => ?_)
            · have h := q_t c_18 h
              refine lv_iconst (v := 1) hx hb dX0_getsOff_145 (by decide) ?_
              refine lv_goto (tgt := 150) hx hb dX0_getsOff_146 (by decide) ?_
              have e9 := Option.some.inj h
              exact q_zret hx hb hr hlocks hK hP hD hS dX0_getsOff_150 rfl (by first | rw [← e9] | rfl) (by first | rw [← e9] | rfl)
            · have h := q_f c_18 h
              refine lv_aload_n hx hb dX0_getsOff_135 rfl (lv_at hl 0 rfl) ?_
              refine va_get (D := D) (ci := 0) (v := .int (F 0 5)) (C := RX0) (T := TX0) (N := 13) hx hb hts uX0_getsOff_X0 hown hK hP 0 rfl rfl 5 (by decide) (hts _ kX0_getsOff_4) (fun _ h9 => h9) rfl dX0_getsOff_136 ?_
              refine lv_iconst (v := 1) hx hb dX0_getsOff_139 (by decide) ?_
              refine lv_iload_n hx hb dX0_getsOff_140 rfl (lv_at hl 1 rfl) ?_
              refine lv_ishl hx hb dX0_getsOff_141 ?_
              refine lv_icmp_ne (tgt := 149) hx hb dX0_getsOff_142 (by decide) (fun c_19 => ?_) (fun c_19 => ?_)
              · have h := q_f c_19 h
                refine lv_iconst (v := 0) hx hb dX0_getsOff_149 (by decide) ?_
                have e9 := Option.some.inj h
                exact q_zret hx hb hr hlocks hK hP hD hS dX0_getsOff_150 rfl (by first | rw [← e9] | rfl) (by first | rw [← e9] | rfl)
              · have h := q_t c_19 h
                refine lv_iconst (v := 1) hx hb dX0_getsOff_145 (by decide) ?_
                refine lv_goto (tgt := 150) hx hb dX0_getsOff_146 (by decide) ?_
                have e9 := Option.some.inj h
                exact q_zret hx hb hr hlocks hK hP hD hS dX0_getsOff_150 rfl (by first | rw [← e9] | rfl) (by first | rw [← e9] | rfl)
          · have h := q_f c_16 h
            have nc_3 := lv_neT c_3 (show ((1 : Int32)).toInt = 1 from by decide)
            have nc_6 := lv_neT c_6 (show ((2 : Int32)).toInt = 2 from by decide)
            have nc_9 := lv_neT c_9 (show ((3 : Int32)).toInt = 3 from by decide)
            have nc_12 := lv_neT c_12 (show ((4 : Int32)).toInt = 4 from by decide)
            have nc_16 := lv_neT c_16 (show ((5 : Int32)).toInt = 5 from by decide)
            refine lv_tableOut (tgt := 151) hx hb dX0_getsOff_6 (by omega) (by decide) ?_
            refine lv_iconst (v := 0) hx hb dX0_getsOff_151 (by decide) ?_
            have e9 := Option.some.inj h
            exact q_zret hx hb hr hlocks hK hP hD hS dX0_getsOff_152 rfl (by first | rw [← e9] | rfl) (by first | rw [← e9] | rfl)
theorem eX0_getsOff : yX0_getsOff.cls = RX0 ∧ yX0_getsOff.cls ≠ "java/lang/invoke/MethodHandle" ∧ yX0_getsOff.cls ≠ "java/lang/invoke/VarHandle" ∧ (parseMethodDescriptor yX0_getsOff.desc).map (fun d => d.parameters.length) = some 1 := by decide +kernel
theorem uX0_dries_X0 : ∀ w ∈ u_ws RX0 TX0 13, w ∈ wsX0_dries := by decide +kernel
theorem kX0_dries_1 : Cond.fieldLink RX0 18 "BeamSeats$Island" "speed" "I" ∈ wsX0_dries := List.mem_of_getElem? (i := 3) (by decide +kernel)
theorem kX0_dries_2 : Cond.fieldLink RX0 33 "BeamSeats$Island" "kinds" "[I" ∈ wsX0_dries := List.mem_of_getElem? (i := 2) (by decide +kernel)
theorem kX0_dries_3 : Cond.fieldLink RX0 40 "BeamSeats$Island" "outs" "[I" ∈ wsX0_dries := List.mem_of_getElem? (i := 1) (by decide +kernel)
def f_X0_dries (N : Nat) (F : Nat → Nat → Int32) (p1 : Int32) : Option (Int32) :=
  q_grd p1 8 (
  q_let ((3 : Int32) + ((F 3 p1.toNatClampNeg) / (3 : Int32))) (fun x_2 =>
  q_grd p1 8 (
  q_let (F 1 p1.toNatClampNeg) (fun x_4 =>
  if x_4 = 1 then
    some x_2
  else
    if x_4 = 2 then
      some (1 : Int32)
    else
      if x_4 = 3 then
        some (0 : Int32)
      else
        if x_4 = 4 then
          some (x_2 + ((F 0 2) / (2 : Int32)))
        else
          some (1 : Int32)))))
set_option maxHeartbeats 4000000 in
set_option maxRecDepth 100000 in
theorem c_X0_dries (l : Launch) (D : va_G) (y : Nat → ClassId) (t : Nat → Nat) (q : Nat → Nat) (sz N : Nat) (F : Nat → Nat → Int32) (p1 : Int32) (res : Int32) (h : f_X0_dries N F p1 = some res) : Met l yX0_dries wsX0_dries ({ frames := 0, cells := 0, slots := 0, locals := 0 } : Room) (pPre D y t [.ref (q 0), .int p1] (wI y q F) sz) (pQi D y res (wI y q F) (va_A (wI y q F) sz)) 0 0 (va_A (wI y q F) sz) := by
  refine q_start (Qc := (fun A => pQi D y res (wI y q F) A)) (cc := cX0_dries) (maxL := 3) (ret := (some .int)) (by decide) rfl (Nat.le_of_ble_eq_true rfl) ?_
  intro p e s m below meth c A ls hx hb hr hts hown hlocks hmn hml hP hK hZ hD hA hS hl
  have hl : lv_has ls 3 [(0, .ref (q 0)), (1, .int p1)] := hl
  have hown : s.vm.findClass RX0 = some m.cls := hown
  unfold f_X0_dries at h
  refine lv_iconst (v := 3) hx hb dX0_dries_0 (by decide) ?_
  refine lv_aload_n hx hb dX0_dries_1 rfl (lv_at hl 0 rfl) ?_
  refine va_get (D := D) (ci := 0) (v := .ref (q 3)) (C := RX0) (T := TX0) (N := 13) hx hb hts uX0_dries_X0 hown hK hP 0 rfl rfl 9 (by decide) (hts _ kX0_dries_3) (fun _ h9 => h9) rfl dX0_dries_2 ?_
  refine lv_iload_n hx hb dX0_dries_5 rfl (lv_at hl 1 rfl) ?_
  obtain ⟨z_1, h⟩ := q_grd_ok h
  refine va_iald hx hb hK hP 3 0 rfl rfl z_1 dX0_dries_6 ?_
  refine lv_iconst (v := 3) hx hb dX0_dries_7 (by decide) ?_
  refine lv_idiv hx hb dX0_dries_8 (by decide) ?_
  refine lv_iadd hx hb dX0_dries_9 ?_
  refine lv_topi (fun x_2 ex_2 => ?_)
  have h := q_let_at ex_2 h
  refine lv_istore_n (lv' := [(2, .int x_2), (0, .ref (q 0)), (1, .int p1)]) hx hb dX0_dries_10 rfl hl (by decide) rfl (fun ls hl => ?_)
  refine lv_aload_n hx hb dX0_dries_11 rfl (lv_at hl 1 rfl) ?_
  refine va_get (D := D) (ci := 0) (v := .ref (q 1)) (C := RX0) (T := TX0) (N := 13) hx hb hts uX0_dries_X0 hown hK hP 0 rfl rfl 7 (by decide) (hts _ kX0_dries_2) (fun _ h9 => h9) rfl dX0_dries_12 ?_
  refine lv_iload_n hx hb dX0_dries_15 rfl (lv_at hl 2 rfl) ?_
  obtain ⟨z_3, h⟩ := q_grd_ok h
  refine va_iald hx hb hK hP 1 0 rfl rfl z_3 dX0_dries_16 ?_
  refine lv_topi (fun x_4 ex_4 => ?_)
  have h := q_let_at ex_4 h
  by_cases c_5 : x_4 = 1
  · have h := q_t c_5 h
    refine lv_tableIn (tgt := 48) (off := 31) hx hb dX0_dries_17 (by rw [c_5]; decide) (by rw [c_5]; decide) (by rw [c_5]; rfl) (by decide) ?_
    refine lv_iload_n hx hb dX0_dries_48 rfl (lv_at hl 0 rfl) ?_
    have e9 := Option.some.inj h
    exact q_iret hx hb hr hlocks hK hP hD hS dX0_dries_49 (by first | rw [← e9] | rfl) (by first | rw [← e9] | rfl)
  · have h := q_f c_5 h
    by_cases c_6 : x_4 = 2
    · have h := q_t c_6 h
      refine lv_tableIn (tgt := 61) (off := 44) hx hb dX0_dries_17 (by rw [c_6]; decide) (by rw [c_6]; decide) (by rw [c_6]; rfl) (by decide) ?_
      refine lv_iconst (v := 1) hx hb dX0_dries_61 (by decide) ?_
      have e9 := Option.some.inj h
      exact q_iret hx hb hr hlocks hK hP hD hS dX0_dries_62 (by first | rw [← e9] | rfl) (by first | rw [← e9] | rfl)
    · have h := q_f c_6 h
      by_cases c_7 : x_4 = 3
      · have h := q_t c_7 h
        refine lv_tableIn (tgt := 50) (off := 33) hx hb dX0_dries_17 (by rw [c_7]; decide) (by rw [c_7]; decide) (by rw [c_7]; rfl) (by decide) ?_
        refine lv_iconst (v := 0) hx hb dX0_dries_50 (by decide) ?_
        have e9 := Option.some.inj h
        exact q_iret hx hb hr hlocks hK hP hD hS dX0_dries_51 (by first | rw [← e9] | rfl) (by first | rw [← e9] | rfl)
      · have h := q_f c_7 h
        by_cases c_8 : x_4 = 4
        · have h := q_t c_8 h
          refine lv_tableIn (tgt := 52) (off := 35) hx hb dX0_dries_17 (by rw [c_8]; decide) (by rw [c_8]; decide) (by rw [c_8]; rfl) (by decide) ?_
          refine lv_iload_n hx hb dX0_dries_52 rfl (lv_at hl 0 rfl) ?_
          refine lv_aload_n hx hb dX0_dries_53 rfl (lv_at hl 1 rfl) ?_
          refine va_get (D := D) (ci := 0) (v := .int (F 0 2)) (C := RX0) (T := TX0) (N := 13) hx hb hts uX0_dries_X0 hown hK hP 0 rfl rfl 2 (by decide) (hts _ kX0_dries_1) (fun _ h9 => h9) rfl dX0_dries_54 ?_
          refine lv_iconst (v := 2) hx hb dX0_dries_57 (by decide) ?_
          refine lv_idiv hx hb dX0_dries_58 (by decide) ?_
          refine lv_iadd hx hb dX0_dries_59 ?_
          have e9 := Option.some.inj h
          exact q_iret hx hb hr hlocks hK hP hD hS dX0_dries_60 (by first | rw [← e9] | rfl) (by first | rw [← e9] | rfl)
        · have h := q_f c_8 h
          have nc_5 := lv_neT c_5 (show ((1 : Int32)).toInt = 1 from by decide)
          have nc_6 := lv_neT c_6 (show ((2 : Int32)).toInt = 2 from by decide)
          have nc_7 := lv_neT c_7 (show ((3 : Int32)).toInt = 3 from by decide)
          have nc_8 := lv_neT c_8 (show ((4 : Int32)).toInt = 4 from by decide)
          refine lv_tableOut (tgt := 61) hx hb dX0_dries_17 (by omega) (by decide) ?_
          refine lv_iconst (v := 1) hx hb dX0_dries_61 (by decide) ?_
          have e9 := Option.some.inj h
          exact q_iret hx hb hr hlocks hK hP hD hS dX0_dries_62 (by first | rw [← e9] | rfl) (by first | rw [← e9] | rfl)
theorem eX0_dries : yX0_dries.cls = RX0 ∧ yX0_dries.cls ≠ "java/lang/invoke/MethodHandle" ∧ yX0_dries.cls ≠ "java/lang/invoke/VarHandle" ∧ (parseMethodDescriptor yX0_dries.desc).map (fun d => d.parameters.length) = some 1 := by decide +kernel
theorem kX0_comeOn_0 : Cond.methodLink RX0 77 Lib.Math.min.name ∈ wsX0_comeOn := List.mem_of_getElem? (i := 3) (by decide +kernel)
theorem kX0_comeOn_1 : Cond.static Lib.Math.min.name ∈ wsX0_comeOn := List.mem_of_getElem? (i := 4) (by decide +kernel)
theorem kX0_comeOn_2 : Cond.initialized "java/lang/Math" ∈ wsX0_comeOn := List.mem_of_getElem? (i := 5) (by decide +kernel)
theorem kX0_comeOn_3 : Cond.code Lib.Math.min.name Lib.Math.min.code 2 (some .int) ∈ wsX0_comeOn := List.mem_of_getElem? (i := 6) (by decide +kernel)
theorem uX0_comeOn_X0 : ∀ w ∈ u_ws RX0 TX0 13, w ∈ wsX0_comeOn := by decide +kernel
theorem kX0_comeOn_5 : Cond.fieldLink RX0 49 "BeamSeats$Island" "times" "[I" ∈ wsX0_comeOn := List.mem_of_getElem? (i := 2) (by decide +kernel)
theorem kX0_comeOn_6 : Cond.fieldLink RX0 27 "BeamSeats$Island" "onSet" "I" ∈ wsX0_comeOn := List.mem_of_getElem? (i := 1) (by decide +kernel)
def f_X0_comeOn (N : Nat) (F : Nat → Nat → Int32) (p1 : Int32) : Option ((Nat → Nat → Int32)) :=
  q_let (q_up F 0 5 ((F 0 5) ||| ((1 : Int32) <<< (p1 &&& 31)))) (fun F_1 =>
  q_grd p1 8 (
  q_let (if (9999 : Int32) < ((F_1 6 p1.toNatClampNeg) + (1 : Int32)) then (9999 : Int32) else ((F_1 6 p1.toNatClampNeg) + (1 : Int32))) (fun x_3 =>
  q_grd p1 8 (
  q_let (q_up F_1 6 p1.toNatClampNeg x_3) (fun F_5 =>
  some F_5)))))
set_option maxHeartbeats 4000000 in
set_option maxRecDepth 100000 in
theorem c_X0_comeOn (l : Launch) (D : va_G) (y : Nat → ClassId) (t : Nat → Nat) (q : Nat → Nat) (sz N : Nat) (F : Nat → Nat → Int32) (p1 : Int32) (res : (Nat → Nat → Int32)) (h : f_X0_comeOn N F p1 = some res) : Met l yX0_comeOn wsX0_comeOn ({ frames := 1, cells := 0, slots := 0, locals := 21 } : Room) (pPre D y t [.ref (q 0), .int p1] (wI y q F) sz) (pQv D y (wI y q res) (va_A (wI y q F) sz)) 0 0 (va_A (wI y q F) sz) := by
  refine q_start (Qc := (fun A => pQv D y (wI y q res) A)) (cc := cX0_comeOn) (maxL := 2) (ret := none) (by decide) rfl (Nat.le_of_ble_eq_true rfl) ?_
  intro p e s m below meth c A ls hx hb hr hts hown hlocks hmn hml hP hK hZ hD hA hS hl
  have hl : lv_has ls 2 [(0, .ref (q 0)), (1, .int p1)] := hl
  have hown : s.vm.findClass RX0 = some m.cls := hown
  unfold f_X0_comeOn at h
  refine lv_aload_n hx hb dX0_comeOn_0 rfl (lv_at hl 0 rfl) ?_
  refine lv_dup hx hb dX0_comeOn_1 rfl ?_
  refine va_get (D := D) (ci := 0) (v := .int (F 0 5)) (C := RX0) (T := TX0) (N := 13) hx hb hts uX0_comeOn_X0 hown hK hP 0 rfl rfl 5 (by decide) (hts _ kX0_comeOn_6) (fun _ h9 => h9) rfl dX0_comeOn_2 ?_
  refine lv_iconst (v := 1) hx hb dX0_comeOn_5 (by decide) ?_
  refine lv_iload_n hx hb dX0_comeOn_6 rfl (lv_at hl 1 rfl) ?_
  refine lv_ishl hx hb dX0_comeOn_7 ?_
  refine lv_ior hx hb dX0_comeOn_8 ?_
  obtain ⟨F_1, eF_1, h⟩ := q_let_ok h
  refine va_put (D := D) (ci := 0) (v := .int ((F 0 5) ||| ((1 : Int32) <<< (p1 &&& 31)))) (ty := .int) (C := RX0) (T := TX0) (N := 13) hx hb hts uX0_comeOn_X0 tyX0 tyX0_ok nmX0 hown hK hP hD hS 0 rfl rfl 5 (by decide) (hts _ kX0_comeOn_6) (fun _ h9 => h9) rfl (by decide +kernel) rfl rfl (Nat.le_of_ble_eq_true rfl) dX0_comeOn_9 (fun H locs hP hD hS => ?_)
  have hP : va_P D vwCl (wI y q F_1) H := by rw [eF_1]; exact hP
  have hD : va_D A (wI y q F_1) := by rw [eF_1]; exact hD
  refine lv_aload_n hx hb dX0_comeOn_12 rfl (lv_at hl 0 rfl) ?_
  refine va_get (D := D) (ci := 0) (v := .ref (q 6)) (C := RX0) (T := TX0) (N := 13) hx hb hts uX0_comeOn_X0 hown hK hP 0 rfl rfl 12 (by decide) (hts _ kX0_comeOn_5) (fun _ h9 => h9) rfl dX0_comeOn_13 ?_
  refine lv_iload_n hx hb dX0_comeOn_16 rfl (lv_at hl 1 rfl) ?_
  refine lv_aload_n hx hb dX0_comeOn_17 rfl (lv_at hl 0 rfl) ?_
  refine va_get (D := D) (ci := 0) (v := .ref (q 6)) (C := RX0) (T := TX0) (N := 13) hx hb hts uX0_comeOn_X0 hown hK hP 0 rfl rfl 12 (by decide) (hts _ kX0_comeOn_5) (fun _ h9 => h9) rfl dX0_comeOn_18 ?_
  refine lv_iload_n hx hb dX0_comeOn_21 rfl (lv_at hl 1 rfl) ?_
  obtain ⟨z_2, h⟩ := q_grd_ok h
  refine va_iald hx hb hK hP 6 0 rfl rfl z_2 dX0_comeOn_22 ?_
  refine lv_iconst (v := 1) hx hb dX0_comeOn_23 (by decide) ?_
  refine lv_iadd hx hb dX0_comeOn_24 ?_
  refine lv_sipush (v := 9999) hx hb dX0_comeOn_25 (by decide) ?_
  refine va_mmin hx hb (hml.trans hl.1.symm) hown (hts _ kX0_comeOn_0) (hts _ kX0_comeOn_1) (hts _ kX0_comeOn_2) (hts _ kX0_comeOn_3) (Nat.le_of_ble_eq_true rfl) (Nat.le_of_ble_eq_true rfl) (Nat.zero_le _) (Nat.zero_le _) dX0_comeOn_28 ?_
  refine lv_topi (fun x_3 ex_3 => ?_)
  have h := q_let_at ex_3 h
  obtain ⟨z_4, h⟩ := q_grd_ok h
  obtain ⟨F_5, eF_5, h⟩ := q_let_ok h
  refine va_iast hx hb hK hP hD hS 6 0 rfl rfl z_4 dX0_comeOn_31 (fun H locs hP hD hS => ?_)
  have hP : va_P D vwCl (wI y q F_5) H := by rw [eF_5]; exact hP
  have hD : va_D A (wI y q F_5) := by rw [eF_5]; exact hD
  have e9 := Option.some.inj h
  exact q_vret hx hb hr hlocks hK hP hD hS dX0_comeOn_32 (by first | rw [← e9] | rfl)
theorem eX0_comeOn : yX0_comeOn.cls = RX0 ∧ yX0_comeOn.cls ≠ "java/lang/invoke/MethodHandle" ∧ yX0_comeOn.cls ≠ "java/lang/invoke/VarHandle" ∧ (parseMethodDescriptor yX0_comeOn.desc).map (fun d => d.parameters.length) = some 1 := by decide +kernel
theorem uX0_goOff_X0 : ∀ w ∈ u_ws RX0 TX0 13, w ∈ wsX0_goOff := by decide +kernel
theorem kX0_goOff_1 : Cond.fieldLink RX0 15 "BeamSeats$Island" "bearing" "I" ∈ wsX0_goOff := List.mem_of_getElem? (i := 3) (by decide +kernel)
theorem kX0_goOff_2 : Cond.fieldLink RX0 37 "BeamSeats$Island" "places" "[I" ∈ wsX0_goOff := List.mem_of_getElem? (i := 2) (by decide +kernel)
theorem kX0_goOff_3 : Cond.fieldLink RX0 27 "BeamSeats$Island" "onSet" "I" ∈ wsX0_goOff := List.mem_of_getElem? (i := 1) (by decide +kernel)
def f_X0_goOff (N : Nat) (F : Nat → Nat → Int32) (p1 : Int32) : Option ((Nat → Nat → Int32)) :=
  q_let (q_up F 0 5 ((F 0 5) &&& (((1 : Int32) <<< (p1 &&& 31)) ^^^ (-1 : Int32)))) (fun F_1 =>
  q_grd p1 8 (
  q_let (q_up F_1 2 p1.toNatClampNeg (F_1 0 1)) (fun F_3 =>
  some F_3)))
set_option maxHeartbeats 4000000 in
set_option maxRecDepth 100000 in
theorem c_X0_goOff (l : Launch) (D : va_G) (y : Nat → ClassId) (t : Nat → Nat) (q : Nat → Nat) (sz N : Nat) (F : Nat → Nat → Int32) (p1 : Int32) (res : (Nat → Nat → Int32)) (h : f_X0_goOff N F p1 = some res) : Met l yX0_goOff wsX0_goOff ({ frames := 0, cells := 0, slots := 0, locals := 0 } : Room) (pPre D y t [.ref (q 0), .int p1] (wI y q F) sz) (pQv D y (wI y q res) (va_A (wI y q F) sz)) 0 0 (va_A (wI y q F) sz) := by
  refine q_start (Qc := (fun A => pQv D y (wI y q res) A)) (cc := cX0_goOff) (maxL := 2) (ret := none) (by decide) rfl (Nat.le_of_ble_eq_true rfl) ?_
  intro p e s m below meth c A ls hx hb hr hts hown hlocks hmn hml hP hK hZ hD hA hS hl
  have hl : lv_has ls 2 [(0, .ref (q 0)), (1, .int p1)] := hl
  have hown : s.vm.findClass RX0 = some m.cls := hown
  unfold f_X0_goOff at h
  refine lv_aload_n hx hb dX0_goOff_0 rfl (lv_at hl 0 rfl) ?_
  refine lv_dup hx hb dX0_goOff_1 rfl ?_
  refine va_get (D := D) (ci := 0) (v := .int (F 0 5)) (C := RX0) (T := TX0) (N := 13) hx hb hts uX0_goOff_X0 hown hK hP 0 rfl rfl 5 (by decide) (hts _ kX0_goOff_3) (fun _ h9 => h9) rfl dX0_goOff_2 ?_
  refine lv_iconst (v := 1) hx hb dX0_goOff_5 (by decide) ?_
  refine lv_iload_n hx hb dX0_goOff_6 rfl (lv_at hl 1 rfl) ?_
  refine lv_ishl hx hb dX0_goOff_7 ?_
  refine lv_iconst (v := -1) hx hb dX0_goOff_8 (by decide) ?_
  refine lv_ixor hx hb dX0_goOff_9 ?_
  refine lv_iand hx hb dX0_goOff_10 ?_
  obtain ⟨F_1, eF_1, h⟩ := q_let_ok h
  refine va_put (D := D) (ci := 0) (v := .int ((F 0 5) &&& (((1 : Int32) <<< (p1 &&& 31)) ^^^ (-1 : Int32)))) (ty := .int) (C := RX0) (T := TX0) (N := 13) hx hb hts uX0_goOff_X0 tyX0 tyX0_ok nmX0 hown hK hP hD hS 0 rfl rfl 5 (by decide) (hts _ kX0_goOff_3) (fun _ h9 => h9) rfl (by decide +kernel) rfl rfl (Nat.le_of_ble_eq_true rfl) dX0_goOff_11 (fun H locs hP hD hS => ?_)
  have hP : va_P D vwCl (wI y q F_1) H := by rw [eF_1]; exact hP
  have hD : va_D A (wI y q F_1) := by rw [eF_1]; exact hD
  refine lv_aload_n hx hb dX0_goOff_14 rfl (lv_at hl 0 rfl) ?_
  refine va_get (D := D) (ci := 0) (v := .ref (q 2)) (C := RX0) (T := TX0) (N := 13) hx hb hts uX0_goOff_X0 hown hK hP 0 rfl rfl 8 (by decide) (hts _ kX0_goOff_2) (fun _ h9 => h9) rfl dX0_goOff_15 ?_
  refine lv_iload_n hx hb dX0_goOff_18 rfl (lv_at hl 1 rfl) ?_
  refine lv_aload_n hx hb dX0_goOff_19 rfl (lv_at hl 0 rfl) ?_
  refine va_get (D := D) (ci := 0) (v := .int (F_1 0 1)) (C := RX0) (T := TX0) (N := 13) hx hb hts uX0_goOff_X0 hown hK hP 0 rfl rfl 1 (by decide) (hts _ kX0_goOff_1) (fun _ h9 => h9) rfl dX0_goOff_20 ?_
  obtain ⟨z_2, h⟩ := q_grd_ok h
  obtain ⟨F_3, eF_3, h⟩ := q_let_ok h
  refine va_iast hx hb hK hP hD hS 2 0 rfl rfl z_2 dX0_goOff_23 (fun H locs hP hD hS => ?_)
  have hP : va_P D vwCl (wI y q F_3) H := by rw [eF_3]; exact hP
  have hD : va_D A (wI y q F_3) := by rw [eF_3]; exact hD
  have e9 := Option.some.inj h
  exact q_vret hx hb hr hlocks hK hP hD hS dX0_goOff_24 (by first | rw [← e9] | rfl)
theorem eX0_goOff : yX0_goOff.cls = RX0 ∧ yX0_goOff.cls ≠ "java/lang/invoke/MethodHandle" ∧ yX0_goOff.cls ≠ "java/lang/invoke/VarHandle" ∧ (parseMethodDescriptor yX0_goOff.desc).map (fun d => d.parameters.length) = some 1 := by decide +kernel
theorem uX0_leaveOrBeLost_X0 : ∀ w ∈ u_ws RX0 TX0 13, w ∈ wsX0_leaveOrBeLost := by decide +kernel
theorem kX0_leaveOrBeLost_1 : Cond.fieldLink RX0 30 "BeamSeats$Island" "lostSet" "I" ∈ wsX0_leaveOrBeLost := List.mem_of_getElem? (i := 2) (by decide +kernel)
theorem kX0_leaveOrBeLost_2 : Cond.fieldLink RX0 15 "BeamSeats$Island" "bearing" "I" ∈ wsX0_leaveOrBeLost := List.mem_of_getElem? (i := 1) (by decide +kernel)
def f_X0_leaveOrBeLost (N : Nat) (F : Nat → Nat → Int32) (p1 : Int32) : Option ((Nat → Nat → Int32)) :=
  q_bd (f_X0_getsOff N F p1) (fun r_1 =>
  if r_1 = 0 then
    if (F 0 1) = (58 : Int32) then
      q_bd (f_X0_goOff N F p1) (fun F_5 =>
      q_let (q_up F_5 0 6 ((F_5 0 6) ||| ((1 : Int32) <<< (p1 &&& 31)))) (fun F_7 =>
      some F_7))
    else
      some F
  else
    q_bd (f_X0_goOff N F p1) (fun F_8 =>
    some F_8))
set_option maxHeartbeats 4000000 in
set_option maxRecDepth 100000 in
theorem c_X0_leaveOrBeLost (l : Launch) (D : va_G) (y : Nat → ClassId) (t : Nat → Nat) (q : Nat → Nat) (sz N : Nat) (F : Nat → Nat → Int32) (p1 : Int32) (res : (Nat → Nat → Int32)) (h : f_X0_leaveOrBeLost N F p1 = some res) : Met l yX0_leaveOrBeLost wsX0_leaveOrBeLost ({ frames := 1, cells := 0, slots := 0, locals := 21 } : Room) (pPre D y t [.ref (q 0), .int p1] (wI y q F) sz) (pQv D y (wI y q res) (va_A (wI y q F) sz)) 0 0 (va_A (wI y q F) sz) := by
  refine q_start (Qc := (fun A => pQv D y (wI y q res) A)) (cc := cX0_leaveOrBeLost) (maxL := 2) (ret := none) (by decide) rfl (Nat.le_of_ble_eq_true rfl) ?_
  intro p e s m below meth c A ls hx hb hr hts hown hlocks hmn hml hP hK hZ hD hA hS hl
  have hl : lv_has ls 2 [(0, .ref (q 0)), (1, .int p1)] := hl
  have hown : s.vm.findClass RX0 = some m.cls := hown
  unfold f_X0_leaveOrBeLost at h
  refine lv_aload_n hx hb dX0_leaveOrBeLost_0 rfl (lv_at hl 0 rfl) ?_
  refine lv_iload_n hx hb dX0_leaveOrBeLost_1 rfl (lv_at hl 1 rfl) ?_
  obtain ⟨r_1, hc_2, h⟩ := q_bd_ok h
  refine q_ci (r := r_1) (va_runV (As := [.int p1]) (rest := []) ⟨hx, hb, hml, hown, hts⟩ (c_X0_getsOff l D y t q _ N F p1 r_1 hc_2) (cwV 1 hts gX0_leaveOrBeLost_X0_getsOff rfl rfl rfl eX0_getsOff ⟨Nat.le_of_ble_eq_true rfl, Nat.le_of_ble_eq_true rfl⟩) ⟨q_blind, (va_recv hK hP (ci := 0) (q0 := 0) rfl rfl), (q_pre hP hK hZ hD hA hS [0, 1, 2, 3, 4, 5, 6] rfl (by decide))⟩ rfl rfl hl.1 rfl (lv_room (Nat.le_of_ble_eq_true rfl)) dX0_leaveOrBeLost_2 ⟨Nat.zero_le _, Nat.zero_le _⟩) hP hD hA hS [0, 1, 2, 3, 4, 5, 6] rfl (by decide) rfl (fun H locs hP hD hS => ?_)
  have hP : va_P D vwCl (wI y q F) H := hP
  have hD : va_D A (wI y q F) := hD
  refine lv_if_eq (tgt := 16) hx hb dX0_leaveOrBeLost_5 (by decide) (fun c_3 => ?_) (fun c_3 => ?_)
  · have h := q_t c_3 h
    refine lv_aload_n hx hb dX0_leaveOrBeLost_16 rfl (lv_at hl 0 rfl) ?_
    refine va_get (D := D) (ci := 0) (v := .int (F 0 1)) (C := RX0) (T := TX0) (N := 13) hx hb hts uX0_leaveOrBeLost_X0 hown hK hP 0 rfl rfl 1 (by decide) (hts _ kX0_leaveOrBeLost_2) (fun _ h9 => h9) rfl dX0_leaveOrBeLost_17 ?_
    refine lv_bipush (v := 58) hx hb dX0_leaveOrBeLost_20 (by decide) ?_
    refine lv_icmp_ne (tgt := 42) hx hb dX0_leaveOrBeLost_22 (by decide) (fun c_4 => ?_) (fun c_4 => ?_)
    · have h := q_f c_4 h
      have e9 := Option.some.inj h
      exact q_vret hx hb hr hlocks hK hP hD hS dX0_leaveOrBeLost_42 (by first | rw [← e9] | rfl)
    · have h := q_t c_4 h
      refine lv_aload_n hx hb dX0_leaveOrBeLost_25 rfl (lv_at hl 0 rfl) ?_
      refine lv_iload_n hx hb dX0_leaveOrBeLost_26 rfl (lv_at hl 1 rfl) ?_
      obtain ⟨F_5, hc_6, h⟩ := q_bd_ok h
      refine q_cv (va_runV (As := [.int p1]) (rest := []) ⟨hx, hb, hml, hown, hts⟩ (c_X0_goOff l D y t q _ N F p1 F_5 hc_6) (cwV 1 hts gX0_leaveOrBeLost_X0_goOff rfl rfl rfl eX0_goOff ⟨Nat.le_of_ble_eq_true rfl, Nat.le_of_ble_eq_true rfl⟩) ⟨q_blind, (va_recv hK hP (ci := 0) (q0 := 0) rfl rfl), (q_pre hP hK hZ hD hA hS [0, 1, 2, 3, 4, 5, 6] rfl (by decide))⟩ rfl rfl hl.1 rfl (lv_room (Nat.le_of_ble_eq_true rfl)) dX0_leaveOrBeLost_27 ⟨Nat.zero_le _, Nat.zero_le _⟩) hP hD hA hS [0, 1, 2, 3, 4, 5, 6] rfl (by decide) rfl (fun H locs hP hD hS => ?_)
      have hP : va_P D vwCl (wI y q F_5) H := hP
      have hD : va_D A (wI y q F_5) := hD
      refine lv_aload_n hx hb dX0_leaveOrBeLost_30 rfl (lv_at hl 0 rfl) ?_
      refine lv_dup hx hb dX0_leaveOrBeLost_31 rfl ?_
      refine va_get (D := D) (ci := 0) (v := .int (F_5 0 6)) (C := RX0) (T := TX0) (N := 13) hx hb hts uX0_leaveOrBeLost_X0 hown hK hP 0 rfl rfl 6 (by decide) (hts _ kX0_leaveOrBeLost_1) (fun _ h9 => h9) rfl dX0_leaveOrBeLost_32 ?_
      refine lv_iconst (v := 1) hx hb dX0_leaveOrBeLost_35 (by decide) ?_
      refine lv_iload_n hx hb dX0_leaveOrBeLost_36 rfl (lv_at hl 1 rfl) ?_
      refine lv_ishl hx hb dX0_leaveOrBeLost_37 ?_
      refine lv_ior hx hb dX0_leaveOrBeLost_38 ?_
      obtain ⟨F_7, eF_7, h⟩ := q_let_ok h
      refine va_put (D := D) (ci := 0) (v := .int ((F_5 0 6) ||| ((1 : Int32) <<< (p1 &&& 31)))) (ty := .int) (C := RX0) (T := TX0) (N := 13) hx hb hts uX0_leaveOrBeLost_X0 tyX0 tyX0_ok nmX0 hown hK hP hD hS 0 rfl rfl 6 (by decide) (hts _ kX0_leaveOrBeLost_1) (fun _ h9 => h9) rfl (by decide +kernel) rfl rfl (Nat.le_of_ble_eq_true rfl) dX0_leaveOrBeLost_39 (fun H locs hP hD hS => ?_)
      have hP : va_P D vwCl (wI y q F_7) H := by rw [eF_7]; exact hP
      have hD : va_D A (wI y q F_7) := by rw [eF_7]; exact hD
      have e9 := Option.some.inj h
      exact q_vret hx hb hr hlocks hK hP hD hS dX0_leaveOrBeLost_42 (by first | rw [← e9] | rfl)
  · have h := q_f c_3 h
    refine lv_aload_n hx hb dX0_leaveOrBeLost_8 rfl (lv_at hl 0 rfl) ?_
    refine lv_iload_n hx hb dX0_leaveOrBeLost_9 rfl (lv_at hl 1 rfl) ?_
    obtain ⟨F_8, hc_9, h⟩ := q_bd_ok h
    refine q_cv (va_runV (As := [.int p1]) (rest := []) ⟨hx, hb, hml, hown, hts⟩ (c_X0_goOff l D y t q _ N F p1 F_8 hc_9) (cwV 1 hts gX0_leaveOrBeLost_X0_goOff rfl rfl rfl eX0_goOff ⟨Nat.le_of_ble_eq_true rfl, Nat.le_of_ble_eq_true rfl⟩) ⟨q_blind, (va_recv hK hP (ci := 0) (q0 := 0) rfl rfl), (q_pre hP hK hZ hD hA hS [0, 1, 2, 3, 4, 5, 6] rfl (by decide))⟩ rfl rfl hl.1 rfl (lv_room (Nat.le_of_ble_eq_true rfl)) dX0_leaveOrBeLost_10 ⟨Nat.zero_le _, Nat.zero_le _⟩) hP hD hA hS [0, 1, 2, 3, 4, 5, 6] rfl (by decide) rfl (fun H locs hP hD hS => ?_)
    have hP : va_P D vwCl (wI y q F_8) H := hP
    have hD : va_D A (wI y q F_8) := hD
    refine lv_goto (tgt := 42) hx hb dX0_leaveOrBeLost_13 (by decide) ?_
    have e9 := Option.some.inj h
    exact q_vret hx hb hr hlocks hK hP hD hS dX0_leaveOrBeLost_42 (by first | rw [← e9] | rfl)
theorem eX0_leaveOrBeLost : yX0_leaveOrBeLost.cls = RX0 ∧ yX0_leaveOrBeLost.cls ≠ "java/lang/invoke/MethodHandle" ∧ yX0_leaveOrBeLost.cls ≠ "java/lang/invoke/VarHandle" ∧ (parseMethodDescriptor yX0_leaveOrBeLost.desc).map (fun d => d.parameters.length) = some 1 := by decide +kernel
theorem uX0_passBearing_X0 : ∀ w ∈ u_ws RX0 TX0 13, w ∈ wsX0_passBearing := by decide +kernel
theorem kX0_passBearing_1 : Cond.fieldLink RX0 30 "BeamSeats$Island" "lostSet" "I" ∈ wsX0_passBearing := List.mem_of_getElem? (i := 5) (by decide +kernel)
theorem kX0_passBearing_2 : Cond.fieldLink RX0 15 "BeamSeats$Island" "bearing" "I" ∈ wsX0_passBearing := List.mem_of_getElem? (i := 4) (by decide +kernel)
theorem kX0_passBearing_3 : Cond.fieldLink RX0 37 "BeamSeats$Island" "places" "[I" ∈ wsX0_passBearing := List.mem_of_getElem? (i := 3) (by decide +kernel)
theorem kX0_passBearing_4 : Cond.fieldLink RX0 27 "BeamSeats$Island" "onSet" "I" ∈ wsX0_passBearing := List.mem_of_getElem? (i := 2) (by decide +kernel)
theorem kX0_passBearing_5 : Cond.fieldLink RX0 24 "BeamSeats$Island" "size" "I" ∈ wsX0_passBearing := List.mem_of_getElem? (i := 1) (by decide +kernel)
def f_X0_passBearing_L2 (N : Nat) (v1 : Int32) : Nat → Int32 → (Nat → Nat → Int32) → Option (Int32 × (Nat → Nat → Int32))
  | 0, _, _ => none
  | k + 1, v2, F =>
    if (F 0 4) ≤ v2 then
      some (v2, F)
    else
      q_let ((1 : Int32) <<< (v2 &&& 31)) (fun x_5 =>
      if ((F 0 5) &&& x_5) = 0 then
        q_grd v2 8 (
        if (F 2 v2.toNatClampNeg) = (F 0 1) then
          if ((v1 ||| (F 0 6)) &&& x_5) = 0 then
            q_bd (f_X0_getsOn N F v2) (fun r_12 =>
            if r_12 = 0 then
              q_let (v2 + 1) (fun x_15 =>
              f_X0_passBearing_L2 N v1 k x_15 F)
            else
              q_bd (f_X0_isBorne N F v2) (fun r_16 =>
              if r_16 = 0 then
                q_let (v2 + 1) (fun x_19 =>
                f_X0_passBearing_L2 N v1 k x_19 F)
              else
                q_bd (f_X0_comeOn N F v2) (fun F_20 =>
                q_let (v2 + 1) (fun x_22 =>
                f_X0_passBearing_L2 N v1 k x_22 F_20))))
          else
            q_let (v2 + 1) (fun x_11 =>
            f_X0_passBearing_L2 N v1 k x_11 F)
        else
          q_let (v2 + 1) (fun x_9 =>
          f_X0_passBearing_L2 N v1 k x_9 F))
      else
        q_bd (f_X0_leaveOrBeLost N F v2) (fun F_23 =>
        q_let (v2 + 1) (fun x_25 =>
        f_X0_passBearing_L2 N v1 k x_25 F_23)))
def f_X0_passBearing (N : Nat) (F : Nat → Nat → Int32) (p1 : Int32) : Option ((Nat → Nat → Int32)) :=
  q_bd2 (f_X0_passBearing_L2 N p1 N (0 : Int32) F) (fun x_2 F_3 =>
  some F_3)
set_option maxHeartbeats 4000000 in
set_option maxRecDepth 100000 in
theorem c_X0_passBearing (l : Launch) (D : va_G) (y : Nat → ClassId) (t : Nat → Nat) (q : Nat → Nat) (sz N : Nat) (F : Nat → Nat → Int32) (p1 : Int32) (res : (Nat → Nat → Int32)) (h : f_X0_passBearing N F p1 = some res) : Met l yX0_passBearing wsX0_passBearing ({ frames := 3, cells := 0, slots := 0, locals := 66 } : Room) (pPre D y t [.ref (q 0), .int p1] (wI y q F) sz) (pQv D y (wI y q res) (va_A (wI y q F) sz)) 0 0 (va_A (wI y q F) sz) := by
  refine q_start (Qc := (fun A => pQv D y (wI y q res) A)) (cc := cX0_passBearing) (maxL := 4) (ret := none) (by decide) rfl (Nat.le_of_ble_eq_true rfl) ?_
  intro p e s m below meth c A ls hx hb hr hts hown hlocks hmn hml hP hK hZ hD hA hS hl
  have hl : lv_has ls 4 [(0, .ref (q 0)), (1, .int p1)] := hl
  have hown : s.vm.findClass RX0 = some m.cls := hown
  unfold f_X0_passBearing at h
  refine lv_iconst (v := 0) hx hb dX0_passBearing_0 (by decide) ?_
  refine lv_istore_n (lv' := [(2, .int (0 : Int32)), (0, .ref (q 0)), (1, .int p1)]) hx hb dX0_passBearing_1 rfl hl (by decide) rfl (fun ls hl => ?_)
  obtain ⟨x_2, F_3, hL1, h⟩ := q_bd2_ok h
  have K2_1 : ∀ (H : Heap) (locs : List Loc) (ls : Array Slot), va_P D vwCl (wI y q F_3) H → va_D A (wI y q F_3) → va_S A s.heap H locs → lv_has ls 4 [(0, .ref (q 0)), (1, .int p1), (2, .int x_2)] → W p l e ({ frames := 3, cells := 0, slots := 0, locals := 66 } : Room) s m ([.ref (q 0), .int p1] : List Value).toArray below meth c H locs 0 0 (MQ below (pQv D y (wI y q res) A) ([.ref (q 0), .int p1] : List Value).toArray s 0 0 A) (F0 m 82 ls []) := by
    intro H locs ls hP hD hS hl
    have e9 := Option.some.inj h
    exact q_vret hx hb hr hlocks hK hP hD hS dX0_passBearing_82 (by first | rw [← e9] | rfl)
  have L2_1 : ∀ (v1 : Int32) (k : Nat) (v2 : Int32) (F : Nat → Nat → Int32), (∀ (H : Heap) (locs : List Loc) (ls : Array Slot), va_P D vwCl (wI y q F_3) H → va_D A (wI y q F_3) → va_S A s.heap H locs → lv_has ls 4 [(0, .ref (q 0)), (1, .int v1), (2, .int x_2)] → W p l e ({ frames := 3, cells := 0, slots := 0, locals := 66 } : Room) s m ([.ref (q 0), .int p1] : List Value).toArray below meth c H locs 0 0 (MQ below (pQv D y (wI y q res) A) ([.ref (q 0), .int p1] : List Value).toArray s 0 0 A) (F0 m 82 ls [])) → ∀ (H : Heap) (locs : List Loc) (ls : Array Slot), va_P D vwCl (wI y q F) H → va_D A (wI y q F) → va_S A s.heap H locs → lv_has ls 4 [(0, .ref (q 0)), (1, .int v1), (2, .int v2)] → f_X0_passBearing_L2 N v1 k v2 F = some (x_2, F_3) → W p l e ({ frames := 3, cells := 0, slots := 0, locals := 66 } : Room) s m ([.ref (q 0), .int p1] : List Value).toArray below meth c H locs 0 0 (MQ below (pQv D y (wI y q res) A) ([.ref (q 0), .int p1] : List Value).toArray s 0 0 A) (F0 m 2 ls []) := by
    intro v1 k
    induction k with
    | zero =>
      intro v2 F K2_1 H locs ls hP hD hS hl h
      have h : (none : Option (Int32 × (Nat → Nat → Int32))) = some _ := h
      cases h
    | succ k ih2_1 =>
      intro v2 F K2_1 H locs ls hP hD hS hl h
      rw [f_X0_passBearing_L2] at h
      refine lv_iload_n hx hb dX0_passBearing_2 rfl (lv_at hl 2 rfl) ?_
      refine lv_aload_n hx hb dX0_passBearing_3 rfl (lv_at hl 0 rfl) ?_
      refine va_get (D := D) (ci := 0) (v := .int (F 0 4)) (C := RX0) (T := TX0) (N := 13) hx hb hts uX0_passBearing_X0 hown hK hP 0 rfl rfl 4 (by decide) (hts _ kX0_passBearing_5) (fun _ h9 => h9) rfl dX0_passBearing_4 ?_
      refine lv_icmp_ge (tgt := 82) hx hb dX0_passBearing_7 (by decide) (fun c_4 => ?_) (fun c_4 => ?_)
      · have h := q_t c_4 h
        cases h
        exact K2_1 _ _ _ hP hD hS (lv_sub hl [0, 1, 2] rfl)
      · have h := q_f c_4 h
        refine lv_iconst (v := 1) hx hb dX0_passBearing_10 (by decide) ?_
        refine lv_iload_n hx hb dX0_passBearing_11 rfl (lv_at hl 2 rfl) ?_
        refine lv_ishl hx hb dX0_passBearing_12 ?_
        refine lv_topi (fun x_5 ex_5 => ?_)
        have h := q_let_at ex_5 h
        refine lv_istore_n (lv' := [(3, .int x_5), (0, .ref (q 0)), (1, .int v1), (2, .int v2)]) hx hb dX0_passBearing_13 rfl hl (by decide) rfl (fun ls hl => ?_)
        refine lv_aload_n hx hb dX0_passBearing_14 rfl (lv_at hl 1 rfl) ?_
        refine va_get (D := D) (ci := 0) (v := .int (F 0 5)) (C := RX0) (T := TX0) (N := 13) hx hb hts uX0_passBearing_X0 hown hK hP 0 rfl rfl 5 (by decide) (hts _ kX0_passBearing_4) (fun _ h9 => h9) rfl dX0_passBearing_15 ?_
        refine lv_iload_n hx hb dX0_passBearing_18 rfl (lv_at hl 0 rfl) ?_
        refine lv_iand hx hb dX0_passBearing_19 ?_
        refine lv_if_eq (tgt := 31) hx hb dX0_passBearing_20 (by decide) (fun c_6 => ?_) (fun c_6 => ?_)
        · have h := q_t c_6 h
          refine lv_aload_n hx hb dX0_passBearing_31 rfl (lv_at hl 1 rfl) ?_
          refine va_get (D := D) (ci := 0) (v := .ref (q 2)) (C := RX0) (T := TX0) (N := 13) hx hb hts uX0_passBearing_X0 hown hK hP 0 rfl rfl 8 (by decide) (hts _ kX0_passBearing_3) (fun _ h9 => h9) rfl dX0_passBearing_32 ?_
          refine lv_iload_n hx hb dX0_passBearing_35 rfl (lv_at hl 3 rfl) ?_
          obtain ⟨z_7, h⟩ := q_grd_ok h
          refine va_iald hx hb hK hP 2 0 rfl rfl z_7 dX0_passBearing_36 ?_
          refine lv_aload_n hx hb dX0_passBearing_37 rfl (lv_at hl 1 rfl) ?_
          refine va_get (D := D) (ci := 0) (v := .int (F 0 1)) (C := RX0) (T := TX0) (N := 13) hx hb hts uX0_passBearing_X0 hown hK hP 0 rfl rfl 1 (by decide) (hts _ kX0_passBearing_2) (fun _ h9 => h9) rfl dX0_passBearing_38 ?_
          refine lv_icmp_ne (tgt := 76) hx hb dX0_passBearing_41 (by decide) (fun c_8 => ?_) (fun c_8 => ?_)
          · have h := q_f c_8 h
            obtain ⟨x_9, ex_9, h⟩ := q_let_ok h
            refine lv_iinc (v := x_9) (lv' := [(2, .int x_9), (3, .int x_5), (0, .ref (q 0)), (1, .int v1)]) hx hb dX0_passBearing_76 hl (k := 3) rfl (by rw [ex_9]; rfl) (by decide) rfl (fun ls hl => ?_)
            refine lv_goto (tgt := 2) hx hb dX0_passBearing_79 (by decide) ?_
            exact ih2_1 x_9 F K2_1 _ _ _ hP hD hS (lv_sub hl [2, 3, 0] rfl) h
          · have h := q_t c_8 h
            refine lv_iload_n hx hb dX0_passBearing_44 rfl (lv_at hl 2 rfl) ?_
            refine lv_aload_n hx hb dX0_passBearing_45 rfl (lv_at hl 1 rfl) ?_
            refine va_get (D := D) (ci := 0) (v := .int (F 0 6)) (C := RX0) (T := TX0) (N := 13) hx hb hts uX0_passBearing_X0 hown hK hP 0 rfl rfl 6 (by decide) (hts _ kX0_passBearing_1) (fun _ h9 => h9) rfl dX0_passBearing_46 ?_
            refine lv_ior hx hb dX0_passBearing_49 ?_
            refine lv_iload_n hx hb dX0_passBearing_50 rfl (lv_at hl 0 rfl) ?_
            refine lv_iand hx hb dX0_passBearing_51 ?_
            refine lv_if_ne (tgt := 76) hx hb dX0_passBearing_52 (by decide) (fun c_10 => ?_) (fun c_10 => ?_)
            · have h := q_f c_10 h
              obtain ⟨x_11, ex_11, h⟩ := q_let_ok h
              refine lv_iinc (v := x_11) (lv' := [(2, .int x_11), (3, .int x_5), (0, .ref (q 0)), (1, .int v1)]) hx hb dX0_passBearing_76 hl (k := 3) rfl (by rw [ex_11]; rfl) (by decide) rfl (fun ls hl => ?_)
              refine lv_goto (tgt := 2) hx hb dX0_passBearing_79 (by decide) ?_
              exact ih2_1 x_11 F K2_1 _ _ _ hP hD hS (lv_sub hl [2, 3, 0] rfl) h
            · have h := q_t c_10 h
              refine lv_aload_n hx hb dX0_passBearing_55 rfl (lv_at hl 1 rfl) ?_
              refine lv_iload_n hx hb dX0_passBearing_56 rfl (lv_at hl 3 rfl) ?_
              obtain ⟨r_12, hc_13, h⟩ := q_bd_ok h
              refine q_ci (r := r_12) (va_runV (As := [.int v2]) (rest := []) ⟨hx, hb, hml, hown, hts⟩ (c_X0_getsOn l D y t q _ N F v2 r_12 hc_13) (cwV 1 hts gX0_passBearing_X0_getsOn rfl rfl rfl eX0_getsOn ⟨Nat.le_of_ble_eq_true rfl, Nat.le_of_ble_eq_true rfl⟩) ⟨q_blind, (va_recv hK hP (ci := 0) (q0 := 0) rfl rfl), (q_pre hP hK hZ hD hA hS [0, 1, 2, 3, 4, 5, 6] rfl (by decide))⟩ rfl rfl hl.1 rfl (lv_room (Nat.le_of_ble_eq_true rfl)) dX0_passBearing_57 ⟨Nat.zero_le _, Nat.zero_le _⟩) hP hD hA hS [0, 1, 2, 3, 4, 5, 6] rfl (by decide) rfl (fun H locs hP hD hS => ?_)
              have hP : va_P D vwCl (wI y q F) H := hP
              have hD : va_D A (wI y q F) := hD
              refine lv_if_eq (tgt := 76) hx hb dX0_passBearing_60 (by decide) (fun c_14 => ?_) (fun c_14 => ?_)
              · have h := q_t c_14 h
                obtain ⟨x_15, ex_15, h⟩ := q_let_ok h
                refine lv_iinc (v := x_15) (lv' := [(2, .int x_15), (3, .int x_5), (0, .ref (q 0)), (1, .int v1)]) hx hb dX0_passBearing_76 hl (k := 3) rfl (by rw [ex_15]; rfl) (by decide) rfl (fun ls hl => ?_)
                refine lv_goto (tgt := 2) hx hb dX0_passBearing_79 (by decide) ?_
                exact ih2_1 x_15 F K2_1 _ _ _ hP hD hS (lv_sub hl [2, 3, 0] rfl) h
              · have h := q_f c_14 h
                refine lv_aload_n hx hb dX0_passBearing_63 rfl (lv_at hl 1 rfl) ?_
                refine lv_iload_n hx hb dX0_passBearing_64 rfl (lv_at hl 3 rfl) ?_
                obtain ⟨r_16, hc_17, h⟩ := q_bd_ok h
                refine q_ci (r := r_16) (va_runV (As := [.int v2]) (rest := []) ⟨hx, hb, hml, hown, hts⟩ (c_X0_isBorne l D y t q _ N F v2 r_16 hc_17) (cwV 1 hts gX0_passBearing_X0_isBorne rfl rfl rfl eX0_isBorne ⟨Nat.le_of_ble_eq_true rfl, Nat.le_of_ble_eq_true rfl⟩) ⟨q_blind, (va_recv hK hP (ci := 0) (q0 := 0) rfl rfl), (q_pre hP hK hZ hD hA hS [0, 1, 2, 3, 4, 5, 6] rfl (by decide))⟩ rfl rfl hl.1 rfl (lv_room (Nat.le_of_ble_eq_true rfl)) dX0_passBearing_65 ⟨Nat.zero_le _, Nat.zero_le _⟩) hP hD hA hS [0, 1, 2, 3, 4, 5, 6] rfl (by decide) rfl (fun H locs hP hD hS => ?_)
                have hP : va_P D vwCl (wI y q F) H := hP
                have hD : va_D A (wI y q F) := hD
                refine lv_if_eq (tgt := 76) hx hb dX0_passBearing_68 (by decide) (fun c_18 => ?_) (fun c_18 => ?_)
                · have h := q_t c_18 h
                  obtain ⟨x_19, ex_19, h⟩ := q_let_ok h
                  refine lv_iinc (v := x_19) (lv' := [(2, .int x_19), (3, .int x_5), (0, .ref (q 0)), (1, .int v1)]) hx hb dX0_passBearing_76 hl (k := 3) rfl (by rw [ex_19]; rfl) (by decide) rfl (fun ls hl => ?_)
                  refine lv_goto (tgt := 2) hx hb dX0_passBearing_79 (by decide) ?_
                  exact ih2_1 x_19 F K2_1 _ _ _ hP hD hS (lv_sub hl [2, 3, 0] rfl) h
                · have h := q_f c_18 h
                  refine lv_aload_n hx hb dX0_passBearing_71 rfl (lv_at hl 1 rfl) ?_
                  refine lv_iload_n hx hb dX0_passBearing_72 rfl (lv_at hl 3 rfl) ?_
                  obtain ⟨F_20, hc_21, h⟩ := q_bd_ok h
                  refine q_cv (va_runV (As := [.int v2]) (rest := []) ⟨hx, hb, hml, hown, hts⟩ (c_X0_comeOn l D y t q _ N F v2 F_20 hc_21) (cwV 1 hts gX0_passBearing_X0_comeOn rfl rfl rfl eX0_comeOn ⟨Nat.le_of_ble_eq_true rfl, Nat.le_of_ble_eq_true rfl⟩) ⟨q_blind, (va_recv hK hP (ci := 0) (q0 := 0) rfl rfl), (q_pre hP hK hZ hD hA hS [0, 1, 2, 3, 4, 5, 6] rfl (by decide))⟩ rfl rfl hl.1 rfl (lv_room (Nat.le_of_ble_eq_true rfl)) dX0_passBearing_73 ⟨Nat.zero_le _, Nat.zero_le _⟩) hP hD hA hS [0, 1, 2, 3, 4, 5, 6] rfl (by decide) rfl (fun H locs hP hD hS => ?_)
                  have hP : va_P D vwCl (wI y q F_20) H := hP
                  have hD : va_D A (wI y q F_20) := hD
                  obtain ⟨x_22, ex_22, h⟩ := q_let_ok h
                  refine lv_iinc (v := x_22) (lv' := [(2, .int x_22), (3, .int x_5), (0, .ref (q 0)), (1, .int v1)]) hx hb dX0_passBearing_76 hl (k := 3) rfl (by rw [ex_22]; rfl) (by decide) rfl (fun ls hl => ?_)
                  refine lv_goto (tgt := 2) hx hb dX0_passBearing_79 (by decide) ?_
                  exact ih2_1 x_22 F_20 K2_1 _ _ _ hP hD hS (lv_sub hl [2, 3, 0] rfl) h
        · have h := q_f c_6 h
          refine lv_aload_n hx hb dX0_passBearing_23 rfl (lv_at hl 1 rfl) ?_
          refine lv_iload_n hx hb dX0_passBearing_24 rfl (lv_at hl 3 rfl) ?_
          obtain ⟨F_23, hc_24, h⟩ := q_bd_ok h
          refine q_cv (va_runV (As := [.int v2]) (rest := []) ⟨hx, hb, hml, hown, hts⟩ (c_X0_leaveOrBeLost l D y t q _ N F v2 F_23 hc_24) (cwV 1 hts gX0_passBearing_X0_leaveOrBeLost rfl rfl rfl eX0_leaveOrBeLost ⟨Nat.le_of_ble_eq_true rfl, Nat.le_of_ble_eq_true rfl⟩) ⟨q_blind, (va_recv hK hP (ci := 0) (q0 := 0) rfl rfl), (q_pre hP hK hZ hD hA hS [0, 1, 2, 3, 4, 5, 6] rfl (by decide))⟩ rfl rfl hl.1 rfl (lv_room (Nat.le_of_ble_eq_true rfl)) dX0_passBearing_25 ⟨Nat.zero_le _, Nat.zero_le _⟩) hP hD hA hS [0, 1, 2, 3, 4, 5, 6] rfl (by decide) rfl (fun H locs hP hD hS => ?_)
          have hP : va_P D vwCl (wI y q F_23) H := hP
          have hD : va_D A (wI y q F_23) := hD
          refine lv_goto (tgt := 76) hx hb dX0_passBearing_28 (by decide) ?_
          obtain ⟨x_25, ex_25, h⟩ := q_let_ok h
          refine lv_iinc (v := x_25) (lv' := [(2, .int x_25), (3, .int x_5), (0, .ref (q 0)), (1, .int v1)]) hx hb dX0_passBearing_76 hl (k := 3) rfl (by rw [ex_25]; rfl) (by decide) rfl (fun ls hl => ?_)
          refine lv_goto (tgt := 2) hx hb dX0_passBearing_79 (by decide) ?_
          exact ih2_1 x_25 F_23 K2_1 _ _ _ hP hD hS (lv_sub hl [2, 3, 0] rfl) h
  exact L2_1 p1 N (0 : Int32) F K2_1 _ _ _ hP hD hS (lv_sub hl [1, 2, 0] rfl) hL1
theorem eX0_passBearing : yX0_passBearing.cls = RX0 ∧ yX0_passBearing.cls ≠ "java/lang/invoke/MethodHandle" ∧ yX0_passBearing.cls ≠ "java/lang/invoke/VarHandle" ∧ (parseMethodDescriptor yX0_passBearing.desc).map (fun d => d.parameters.length) = some 1 := by decide +kernel
theorem kX0_dryAndRide_0 : Cond.methodLink RX0 60 Lib.Math.max.name ∈ wsX0_dryAndRide := List.mem_of_getElem? (i := 3) (by decide +kernel)
theorem kX0_dryAndRide_1 : Cond.static Lib.Math.max.name ∈ wsX0_dryAndRide := List.mem_of_getElem? (i := 4) (by decide +kernel)
theorem kX0_dryAndRide_2 : Cond.initialized "java/lang/Math" ∈ wsX0_dryAndRide := List.mem_of_getElem? (i := 5) (by decide +kernel)
theorem kX0_dryAndRide_3 : Cond.code Lib.Math.max.name Lib.Math.max.code 2 (some .int) ∈ wsX0_dryAndRide := List.mem_of_getElem? (i := 6) (by decide +kernel)
theorem uX0_dryAndRide_X0 : ∀ w ∈ u_ws RX0 TX0 13, w ∈ wsX0_dryAndRide := by decide +kernel
theorem kX0_dryAndRide_5 : Cond.fieldLink RX0 15 "BeamSeats$Island" "bearing" "I" ∈ wsX0_dryAndRide := List.mem_of_getElem? (i := 8) (by decide +kernel)
theorem kX0_dryAndRide_6 : Cond.fieldLink RX0 37 "BeamSeats$Island" "places" "[I" ∈ wsX0_dryAndRide := List.mem_of_getElem? (i := 7) (by decide +kernel)
theorem kX0_dryAndRide_7 : Cond.fieldLink RX0 43 "BeamSeats$Island" "wets" "[I" ∈ wsX0_dryAndRide := List.mem_of_getElem? (i := 2) (by decide +kernel)
theorem kX0_dryAndRide_8 : Cond.fieldLink RX0 24 "BeamSeats$Island" "size" "I" ∈ wsX0_dryAndRide := List.mem_of_getElem? (i := 1) (by decide +kernel)
def f_X0_dryAndRide_L2 (N : Nat) : Nat → Int32 → (Nat → Nat → Int32) → Option (Int32 × (Nat → Nat → Int32))
  | 0, _, _ => none
  | k + 1, v1, F =>
    if (F 0 4) ≤ v1 then
      some (v1, F)
    else
      q_bd (f_X0_isOn N F v1) (fun r_5 =>
      if r_5 = 0 then
        q_let (v1 + 1) (fun x_8 =>
        f_X0_dryAndRide_L2 N k x_8 F)
      else
        q_grd v1 8 (
        q_bd (f_X0_dries N F v1) (fun r_10 =>
        q_let (if (0 : Int32) < ((F 4 v1.toNatClampNeg) - r_10) then ((F 4 v1.toNatClampNeg) - r_10) else (0 : Int32)) (fun x_12 =>
        q_grd v1 8 (
        q_let (q_up F 4 v1.toNatClampNeg x_12) (fun F_14 =>
        q_grd v1 8 (
        q_let (q_up F_14 2 v1.toNatClampNeg (F_14 0 1)) (fun F_16 =>
        q_let (v1 + 1) (fun x_17 =>
        f_X0_dryAndRide_L2 N k x_17 F_16)))))))))
def f_X0_dryAndRide (N : Nat) (F : Nat → Nat → Int32) : Option ((Nat → Nat → Int32)) :=
  q_bd2 (f_X0_dryAndRide_L2 N N (0 : Int32) F) (fun x_2 F_3 =>
  some F_3)
set_option maxHeartbeats 4000000 in
set_option maxRecDepth 100000 in
theorem c_X0_dryAndRide (l : Launch) (D : va_G) (y : Nat → ClassId) (t : Nat → Nat) (q : Nat → Nat) (sz N : Nat) (F : Nat → Nat → Int32) (res : (Nat → Nat → Int32)) (h : f_X0_dryAndRide N F = some res) : Met l yX0_dryAndRide wsX0_dryAndRide ({ frames := 1, cells := 0, slots := 0, locals := 22 } : Room) (pPre D y t [.ref (q 0)] (wI y q F) sz) (pQv D y (wI y q res) (va_A (wI y q F) sz)) 0 0 (va_A (wI y q F) sz) := by
  refine q_start (Qc := (fun A => pQv D y (wI y q res) A)) (cc := cX0_dryAndRide) (maxL := 2) (ret := none) (by decide) rfl (Nat.le_of_ble_eq_true rfl) ?_
  intro p e s m below meth c A ls hx hb hr hts hown hlocks hmn hml hP hK hZ hD hA hS hl
  have hl : lv_has ls 2 [(0, .ref (q 0))] := hl
  have hown : s.vm.findClass RX0 = some m.cls := hown
  unfold f_X0_dryAndRide at h
  refine lv_iconst (v := 0) hx hb dX0_dryAndRide_0 (by decide) ?_
  refine lv_istore_n (lv' := [(1, .int (0 : Int32)), (0, .ref (q 0))]) hx hb dX0_dryAndRide_1 rfl hl (by decide) rfl (fun ls hl => ?_)
  obtain ⟨x_2, F_3, hL1, h⟩ := q_bd2_ok h
  have K2_1 : ∀ (H : Heap) (locs : List Loc) (ls : Array Slot), va_P D vwCl (wI y q F_3) H → va_D A (wI y q F_3) → va_S A s.heap H locs → lv_has ls 2 [(0, .ref (q 0)), (1, .int x_2)] → W p l e ({ frames := 1, cells := 0, slots := 0, locals := 22 } : Room) s m ([.ref (q 0)] : List Value).toArray below meth c H locs 0 0 (MQ below (pQv D y (wI y q res) A) ([.ref (q 0)] : List Value).toArray s 0 0 A) (F0 m 56 ls []) := by
    intro H locs ls hP hD hS hl
    have e9 := Option.some.inj h
    exact q_vret hx hb hr hlocks hK hP hD hS dX0_dryAndRide_56 (by first | rw [← e9] | rfl)
  have L2_1 : ∀ (k : Nat) (v1 : Int32) (F : Nat → Nat → Int32), (∀ (H : Heap) (locs : List Loc) (ls : Array Slot), va_P D vwCl (wI y q F_3) H → va_D A (wI y q F_3) → va_S A s.heap H locs → lv_has ls 2 [(0, .ref (q 0)), (1, .int x_2)] → W p l e ({ frames := 1, cells := 0, slots := 0, locals := 22 } : Room) s m ([.ref (q 0)] : List Value).toArray below meth c H locs 0 0 (MQ below (pQv D y (wI y q res) A) ([.ref (q 0)] : List Value).toArray s 0 0 A) (F0 m 56 ls [])) → ∀ (H : Heap) (locs : List Loc) (ls : Array Slot), va_P D vwCl (wI y q F) H → va_D A (wI y q F) → va_S A s.heap H locs → lv_has ls 2 [(0, .ref (q 0)), (1, .int v1)] → f_X0_dryAndRide_L2 N k v1 F = some (x_2, F_3) → W p l e ({ frames := 1, cells := 0, slots := 0, locals := 22 } : Room) s m ([.ref (q 0)] : List Value).toArray below meth c H locs 0 0 (MQ below (pQv D y (wI y q res) A) ([.ref (q 0)] : List Value).toArray s 0 0 A) (F0 m 2 ls []) := by
    intro k
    induction k with
    | zero =>
      intro v1 F K2_1 H locs ls hP hD hS hl h
      have h : (none : Option (Int32 × (Nat → Nat → Int32))) = some _ := h
      cases h
    | succ k ih2_1 =>
      intro v1 F K2_1 H locs ls hP hD hS hl h
      rw [f_X0_dryAndRide_L2] at h
      refine lv_iload_n hx hb dX0_dryAndRide_2 rfl (lv_at hl 1 rfl) ?_
      refine lv_aload_n hx hb dX0_dryAndRide_3 rfl (lv_at hl 0 rfl) ?_
      refine va_get (D := D) (ci := 0) (v := .int (F 0 4)) (C := RX0) (T := TX0) (N := 13) hx hb hts uX0_dryAndRide_X0 hown hK hP 0 rfl rfl 4 (by decide) (hts _ kX0_dryAndRide_8) (fun _ h9 => h9) rfl dX0_dryAndRide_4 ?_
      refine lv_icmp_ge (tgt := 56) hx hb dX0_dryAndRide_7 (by decide) (fun c_4 => ?_) (fun c_4 => ?_)
      · have h := q_t c_4 h
        cases h
        exact K2_1 _ _ _ hP hD hS (lv_sub hl [0, 1] rfl)
      · have h := q_f c_4 h
        refine lv_aload_n hx hb dX0_dryAndRide_10 rfl (lv_at hl 0 rfl) ?_
        refine lv_iload_n hx hb dX0_dryAndRide_11 rfl (lv_at hl 1 rfl) ?_
        obtain ⟨r_5, hc_6, h⟩ := q_bd_ok h
        refine q_ci (r := r_5) (va_runV (As := [.int v1]) (rest := []) ⟨hx, hb, hml, hown, hts⟩ (c_X0_isOn l D y t q _ N F v1 r_5 hc_6) (cwV 1 hts gX0_dryAndRide_X0_isOn rfl rfl rfl eX0_isOn ⟨Nat.le_of_ble_eq_true rfl, Nat.le_of_ble_eq_true rfl⟩) ⟨q_blind, (va_recv hK hP (ci := 0) (q0 := 0) rfl rfl), (q_pre hP hK hZ hD hA hS [0, 1, 2, 3, 4, 5, 6] rfl (by decide))⟩ rfl rfl hl.1 rfl (lv_room (Nat.le_of_ble_eq_true rfl)) dX0_dryAndRide_12 ⟨Nat.zero_le _, Nat.zero_le _⟩) hP hD hA hS [0, 1, 2, 3, 4, 5, 6] rfl (by decide) rfl (fun H locs hP hD hS => ?_)
        have hP : va_P D vwCl (wI y q F) H := hP
        have hD : va_D A (wI y q F) := hD
        refine lv_if_eq (tgt := 50) hx hb dX0_dryAndRide_15 (by decide) (fun c_7 => ?_) (fun c_7 => ?_)
        · have h := q_t c_7 h
          obtain ⟨x_8, ex_8, h⟩ := q_let_ok h
          refine lv_iinc (v := x_8) (lv' := [(1, .int x_8), (0, .ref (q 0))]) hx hb dX0_dryAndRide_50 hl (k := 1) rfl (by rw [ex_8]; rfl) (by decide) rfl (fun ls hl => ?_)
          refine lv_goto (tgt := 2) hx hb dX0_dryAndRide_53 (by decide) ?_
          exact ih2_1 x_8 F K2_1 _ _ _ hP hD hS (lv_sub hl [1, 0] rfl) h
        · have h := q_f c_7 h
          refine lv_aload_n hx hb dX0_dryAndRide_18 rfl (lv_at hl 0 rfl) ?_
          refine va_get (D := D) (ci := 0) (v := .ref (q 4)) (C := RX0) (T := TX0) (N := 13) hx hb hts uX0_dryAndRide_X0 hown hK hP 0 rfl rfl 10 (by decide) (hts _ kX0_dryAndRide_7) (fun _ h9 => h9) rfl dX0_dryAndRide_19 ?_
          refine lv_iload_n hx hb dX0_dryAndRide_22 rfl (lv_at hl 1 rfl) ?_
          refine lv_iconst (v := 0) hx hb dX0_dryAndRide_23 (by decide) ?_
          refine lv_aload_n hx hb dX0_dryAndRide_24 rfl (lv_at hl 0 rfl) ?_
          refine va_get (D := D) (ci := 0) (v := .ref (q 4)) (C := RX0) (T := TX0) (N := 13) hx hb hts uX0_dryAndRide_X0 hown hK hP 0 rfl rfl 10 (by decide) (hts _ kX0_dryAndRide_7) (fun _ h9 => h9) rfl dX0_dryAndRide_25 ?_
          refine lv_iload_n hx hb dX0_dryAndRide_28 rfl (lv_at hl 1 rfl) ?_
          obtain ⟨z_9, h⟩ := q_grd_ok h
          refine va_iald hx hb hK hP 4 0 rfl rfl z_9 dX0_dryAndRide_29 ?_
          refine lv_aload_n hx hb dX0_dryAndRide_30 rfl (lv_at hl 0 rfl) ?_
          refine lv_iload_n hx hb dX0_dryAndRide_31 rfl (lv_at hl 1 rfl) ?_
          obtain ⟨r_10, hc_11, h⟩ := q_bd_ok h
          refine q_ci (r := r_10) (va_runV (As := [.int v1]) (rest := [.int (F 4 v1.toNatClampNeg), .int (0 : Int32), .int v1, .ref (q 4)]) ⟨hx, hb, hml, hown, hts⟩ (c_X0_dries l D y t q _ N F v1 r_10 hc_11) (cwV 1 hts gX0_dryAndRide_X0_dries rfl rfl rfl eX0_dries ⟨Nat.le_of_ble_eq_true rfl, Nat.le_of_ble_eq_true rfl⟩) ⟨q_blind, (va_recv hK hP (ci := 0) (q0 := 0) rfl rfl), (q_pre hP hK hZ hD hA hS [0, 1, 2, 3, 4, 5, 6] rfl (by decide))⟩ rfl rfl hl.1 rfl (lv_room (Nat.le_of_ble_eq_true rfl)) dX0_dryAndRide_32 ⟨Nat.zero_le _, Nat.zero_le _⟩) hP hD hA hS [0, 1, 2, 3, 4, 5, 6] rfl (by decide) rfl (fun H locs hP hD hS => ?_)
          have hP : va_P D vwCl (wI y q F) H := hP
          have hD : va_D A (wI y q F) := hD
          refine lv_isub hx hb dX0_dryAndRide_35 ?_
          refine va_mmax hx hb (hml.trans hl.1.symm) hown (hts _ kX0_dryAndRide_0) (hts _ kX0_dryAndRide_1) (hts _ kX0_dryAndRide_2) (hts _ kX0_dryAndRide_3) (Nat.le_of_ble_eq_true rfl) (Nat.le_of_ble_eq_true rfl) (Nat.zero_le _) (Nat.zero_le _) dX0_dryAndRide_36 ?_
          refine lv_topi (fun x_12 ex_12 => ?_)
          have h := q_let_at ex_12 h
          obtain ⟨z_13, h⟩ := q_grd_ok h
          obtain ⟨F_14, eF_14, h⟩ := q_let_ok h
          refine va_iast hx hb hK hP hD hS 4 0 rfl rfl z_13 dX0_dryAndRide_39 (fun H locs hP hD hS => ?_)
          have hP : va_P D vwCl (wI y q F_14) H := by rw [eF_14]; exact hP
          have hD : va_D A (wI y q F_14) := by rw [eF_14]; exact hD
          refine lv_aload_n hx hb dX0_dryAndRide_40 rfl (lv_at hl 0 rfl) ?_
          refine va_get (D := D) (ci := 0) (v := .ref (q 2)) (C := RX0) (T := TX0) (N := 13) hx hb hts uX0_dryAndRide_X0 hown hK hP 0 rfl rfl 8 (by decide) (hts _ kX0_dryAndRide_6) (fun _ h9 => h9) rfl dX0_dryAndRide_41 ?_
          refine lv_iload_n hx hb dX0_dryAndRide_44 rfl (lv_at hl 1 rfl) ?_
          refine lv_aload_n hx hb dX0_dryAndRide_45 rfl (lv_at hl 0 rfl) ?_
          refine va_get (D := D) (ci := 0) (v := .int (F_14 0 1)) (C := RX0) (T := TX0) (N := 13) hx hb hts uX0_dryAndRide_X0 hown hK hP 0 rfl rfl 1 (by decide) (hts _ kX0_dryAndRide_5) (fun _ h9 => h9) rfl dX0_dryAndRide_46 ?_
          obtain ⟨z_15, h⟩ := q_grd_ok h
          obtain ⟨F_16, eF_16, h⟩ := q_let_ok h
          refine va_iast hx hb hK hP hD hS 2 0 rfl rfl z_15 dX0_dryAndRide_49 (fun H locs hP hD hS => ?_)
          have hP : va_P D vwCl (wI y q F_16) H := by rw [eF_16]; exact hP
          have hD : va_D A (wI y q F_16) := by rw [eF_16]; exact hD
          obtain ⟨x_17, ex_17, h⟩ := q_let_ok h
          refine lv_iinc (v := x_17) (lv' := [(1, .int x_17), (0, .ref (q 0))]) hx hb dX0_dryAndRide_50 hl (k := 1) rfl (by rw [ex_17]; rfl) (by decide) rfl (fun ls hl => ?_)
          refine lv_goto (tgt := 2) hx hb dX0_dryAndRide_53 (by decide) ?_
          exact ih2_1 x_17 F_16 K2_1 _ _ _ hP hD hS (lv_sub hl [1, 0] rfl) h
  exact L2_1 N (0 : Int32) F K2_1 _ _ _ hP hD hS (lv_sub hl [1, 0] rfl) hL1
theorem eX0_dryAndRide : yX0_dryAndRide.cls = RX0 ∧ yX0_dryAndRide.cls ≠ "java/lang/invoke/MethodHandle" ∧ yX0_dryAndRide.cls ≠ "java/lang/invoke/VarHandle" ∧ (parseMethodDescriptor yX0_dryAndRide.desc).map (fun d => d.parameters.length) = some 0 := by decide +kernel
theorem uX0_goSeconds_X0 : ∀ w ∈ u_ws RX0 TX0 13, w ∈ wsX0_goSeconds := by decide +kernel
theorem kX0_goSeconds_1 : Cond.fieldLink RX0 15 "BeamSeats$Island" "bearing" "I" ∈ wsX0_goSeconds := List.mem_of_getElem? (i := 3) (by decide +kernel)
theorem kX0_goSeconds_2 : Cond.fieldLink RX0 18 "BeamSeats$Island" "speed" "I" ∈ wsX0_goSeconds := List.mem_of_getElem? (i := 2) (by decide +kernel)
theorem kX0_goSeconds_3 : Cond.fieldLink RX0 9 "BeamSeats$Island" "second" "I" ∈ wsX0_goSeconds := List.mem_of_getElem? (i := 4) (by decide +kernel)
theorem kX0_goSeconds_4 : Cond.fieldLink RX0 27 "BeamSeats$Island" "onSet" "I" ∈ wsX0_goSeconds := List.mem_of_getElem? (i := 1) (by decide +kernel)
def f_X0_goSeconds_L15 (N : Nat) (v1 : Int32) (v2 : Int32) (v3 : Int32) : Nat → Int32 → (Nat → Nat → Int32) → Option (Int32 × (Nat → Nat → Int32))
  | 0, _, _ => none
  | k + 1, v4, F =>
    if (F 0 2) ≤ v4 then
      some (v4, F)
    else
      if (F 0 1) < (59 : Int32) then
        q_let (q_up F 0 1 ((F 0 1) + (1 : Int32))) (fun F_11 =>
        q_bd (f_X0_passBearing N F_11 v3) (fun F_12 =>
        q_let (v4 + 1) (fun x_14 =>
        f_X0_goSeconds_L15 N v1 v2 v3 k x_14 F_12)))
      else
        q_let (q_up F 0 1 (0 : Int32)) (fun F_15 =>
        q_bd (f_X0_passBearing N F_15 v3) (fun F_16 =>
        q_let (v4 + 1) (fun x_18 =>
        f_X0_goSeconds_L15 N v1 v2 v3 k x_18 F_16)))
def f_X0_goSeconds_L2 (N : Nat) (v1 : Int32) : Nat → Int32 → (Nat → Nat → Int32) → Option (Int32 × (Nat → Nat → Int32))
  | 0, _, _ => none
  | k + 1, v2, F =>
    if v1 ≤ v2 then
      some (v2, F)
    else
      q_let (F 0 5) (fun x_5 =>
      q_bd2 (f_X0_goSeconds_L15 N v1 v2 x_5 N (0 : Int32) F) (fun x_7 F_8 =>
      q_bd (f_X0_dryAndRide N F_8) (fun F_19 =>
      q_let (q_up F_19 0 0 ((F_19 0 0) + (1 : Int32))) (fun F_21 =>
      q_let (v2 + 1) (fun x_22 =>
      f_X0_goSeconds_L2 N v1 k x_22 F_21)))))
def f_X0_goSeconds (N : Nat) (F : Nat → Nat → Int32) (p1 : Int32) : Option ((Nat → Nat → Int32)) :=
  q_bd2 (f_X0_goSeconds_L2 N p1 N (0 : Int32) F) (fun x_2 F_3 =>
  some F_3)
set_option maxHeartbeats 4000000 in
set_option maxRecDepth 100000 in
theorem c_X0_goSeconds (l : Launch) (D : va_G) (y : Nat → ClassId) (t : Nat → Nat) (q : Nat → Nat) (sz N : Nat) (F : Nat → Nat → Int32) (p1 : Int32) (res : (Nat → Nat → Int32)) (h : f_X0_goSeconds N F p1 = some res) : Met l yX0_goSeconds wsX0_goSeconds ({ frames := 4, cells := 0, slots := 0, locals := 89 } : Room) (pPre D y t [.ref (q 0), .int p1] (wI y q F) sz) (pQv D y (wI y q res) (va_A (wI y q F) sz)) 0 0 (va_A (wI y q F) sz) := by
  refine q_start (Qc := (fun A => pQv D y (wI y q res) A)) (cc := cX0_goSeconds) (maxL := 5) (ret := none) (by decide) rfl (Nat.le_of_ble_eq_true rfl) ?_
  intro p e s m below meth c A ls hx hb hr hts hown hlocks hmn hml hP hK hZ hD hA hS hl
  have hl : lv_has ls 5 [(0, .ref (q 0)), (1, .int p1)] := hl
  have hown : s.vm.findClass RX0 = some m.cls := hown
  unfold f_X0_goSeconds at h
  refine lv_iconst (v := 0) hx hb dX0_goSeconds_0 (by decide) ?_
  refine lv_istore_n (lv' := [(2, .int (0 : Int32)), (0, .ref (q 0)), (1, .int p1)]) hx hb dX0_goSeconds_1 rfl hl (by decide) rfl (fun ls hl => ?_)
  obtain ⟨x_2, F_3, hL1, h⟩ := q_bd2_ok h
  have K2_1 : ∀ (H : Heap) (locs : List Loc) (ls : Array Slot), va_P D vwCl (wI y q F_3) H → va_D A (wI y q F_3) → va_S A s.heap H locs → lv_has ls 5 [(0, .ref (q 0)), (1, .int p1), (2, .int x_2)] → W p l e ({ frames := 4, cells := 0, slots := 0, locals := 89 } : Room) s m ([.ref (q 0), .int p1] : List Value).toArray below meth c H locs 0 0 (MQ below (pQv D y (wI y q res) A) ([.ref (q 0), .int p1] : List Value).toArray s 0 0 A) (F0 m 78 ls []) := by
    intro H locs ls hP hD hS hl
    have e9 := Option.some.inj h
    exact q_vret hx hb hr hlocks hK hP hD hS dX0_goSeconds_78 (by first | rw [← e9] | rfl)
  have L2_1 : ∀ (v1 : Int32) (k : Nat) (v2 : Int32) (F : Nat → Nat → Int32), (∀ (H : Heap) (locs : List Loc) (ls : Array Slot), va_P D vwCl (wI y q F_3) H → va_D A (wI y q F_3) → va_S A s.heap H locs → lv_has ls 5 [(0, .ref (q 0)), (1, .int v1), (2, .int x_2)] → W p l e ({ frames := 4, cells := 0, slots := 0, locals := 89 } : Room) s m ([.ref (q 0), .int p1] : List Value).toArray below meth c H locs 0 0 (MQ below (pQv D y (wI y q res) A) ([.ref (q 0), .int p1] : List Value).toArray s 0 0 A) (F0 m 78 ls [])) → ∀ (H : Heap) (locs : List Loc) (ls : Array Slot), va_P D vwCl (wI y q F) H → va_D A (wI y q F) → va_S A s.heap H locs → lv_has ls 5 [(0, .ref (q 0)), (1, .int v1), (2, .int v2)] → f_X0_goSeconds_L2 N v1 k v2 F = some (x_2, F_3) → W p l e ({ frames := 4, cells := 0, slots := 0, locals := 89 } : Room) s m ([.ref (q 0), .int p1] : List Value).toArray below meth c H locs 0 0 (MQ below (pQv D y (wI y q res) A) ([.ref (q 0), .int p1] : List Value).toArray s 0 0 A) (F0 m 2 ls []) := by
    intro v1 k
    induction k with
    | zero =>
      intro v2 F K2_1 H locs ls hP hD hS hl h
      have h : (none : Option (Int32 × (Nat → Nat → Int32))) = some _ := h
      cases h
    | succ k ih2_1 =>
      intro v2 F K2_1 H locs ls hP hD hS hl h
      rw [f_X0_goSeconds_L2] at h
      refine lv_iload_n hx hb dX0_goSeconds_2 rfl (lv_at hl 2 rfl) ?_
      refine lv_iload_n hx hb dX0_goSeconds_3 rfl (lv_at hl 1 rfl) ?_
      refine lv_icmp_ge (tgt := 78) hx hb dX0_goSeconds_4 (by decide) (fun c_4 => ?_) (fun c_4 => ?_)
      · have h := q_t c_4 h
        cases h
        exact K2_1 _ _ _ hP hD hS (lv_sub hl [0, 1, 2] rfl)
      · have h := q_f c_4 h
        refine lv_aload_n hx hb dX0_goSeconds_7 rfl (lv_at hl 0 rfl) ?_
        refine va_get (D := D) (ci := 0) (v := .int (F 0 5)) (C := RX0) (T := TX0) (N := 13) hx hb hts uX0_goSeconds_X0 hown hK hP 0 rfl rfl 5 (by decide) (hts _ kX0_goSeconds_4) (fun _ h9 => h9) rfl dX0_goSeconds_8 ?_
        refine lv_topi (fun x_5 ex_5 => ?_)
        have h := q_let_at ex_5 h
        refine lv_istore_n (lv' := [(3, .int x_5), (0, .ref (q 0)), (1, .int v1), (2, .int v2)]) hx hb dX0_goSeconds_11 rfl hl (by decide) rfl (fun ls hl => ?_)
        refine lv_iconst (v := 0) hx hb dX0_goSeconds_12 (by decide) ?_
        refine lv_istore (lv' := [(4, .int (0 : Int32)), (3, .int x_5), (0, .ref (q 0)), (1, .int v1), (2, .int v2)]) hx hb dX0_goSeconds_13 hl (by decide) rfl (fun ls hl => ?_)
        obtain ⟨x_7, F_8, hL6, h⟩ := q_bd2_ok h
        have K15_6 : ∀ (H : Heap) (locs : List Loc) (ls : Array Slot), va_P D vwCl (wI y q F_8) H → va_D A (wI y q F_8) → va_S A s.heap H locs → lv_has ls 5 [(0, .ref (q 0)), (1, .int v1), (2, .int v2), (3, .int x_5), (4, .int x_7)] → W p l e ({ frames := 4, cells := 0, slots := 0, locals := 89 } : Room) s m ([.ref (q 0), .int p1] : List Value).toArray below meth c H locs 0 0 (MQ below (pQv D y (wI y q res) A) ([.ref (q 0), .int p1] : List Value).toArray s 0 0 A) (F0 m 58 ls []) := by
          intro H locs ls hP hD hS hl
          refine lv_aload_n hx hb dX0_goSeconds_58 rfl (lv_at hl 0 rfl) ?_
          obtain ⟨F_19, hc_20, h⟩ := q_bd_ok h
          refine q_cv (va_runV (As := []) (rest := []) ⟨hx, hb, hml, hown, hts⟩ (c_X0_dryAndRide l D y t q _ N F_8 F_19 hc_20) (cwV 0 hts gX0_goSeconds_X0_dryAndRide rfl rfl rfl eX0_dryAndRide ⟨Nat.le_of_ble_eq_true rfl, Nat.le_of_ble_eq_true rfl⟩) ⟨q_blind, (va_recv hK hP (ci := 0) (q0 := 0) rfl rfl), (q_pre hP hK hZ hD hA hS [0, 1, 2, 3, 4, 5, 6] rfl (by decide))⟩ rfl rfl hl.1 rfl (lv_room (Nat.le_of_ble_eq_true rfl)) dX0_goSeconds_59 ⟨Nat.zero_le _, Nat.zero_le _⟩) hP hD hA hS [0, 1, 2, 3, 4, 5, 6] rfl (by decide) rfl (fun H locs hP hD hS => ?_)
          have hP : va_P D vwCl (wI y q F_19) H := hP
          have hD : va_D A (wI y q F_19) := hD
          refine lv_aload_n hx hb dX0_goSeconds_62 rfl (lv_at hl 0 rfl) ?_
          refine lv_dup hx hb dX0_goSeconds_63 rfl ?_
          refine va_get (D := D) (ci := 0) (v := .int (F_19 0 0)) (C := RX0) (T := TX0) (N := 13) hx hb hts uX0_goSeconds_X0 hown hK hP 0 rfl rfl 0 (by decide) (hts _ kX0_goSeconds_3) (fun _ h9 => h9) rfl dX0_goSeconds_64 ?_
          refine lv_iconst (v := 1) hx hb dX0_goSeconds_67 (by decide) ?_
          refine lv_iadd hx hb dX0_goSeconds_68 ?_
          obtain ⟨F_21, eF_21, h⟩ := q_let_ok h
          refine va_put (D := D) (ci := 0) (v := .int ((F_19 0 0) + (1 : Int32))) (ty := .int) (C := RX0) (T := TX0) (N := 13) hx hb hts uX0_goSeconds_X0 tyX0 tyX0_ok nmX0 hown hK hP hD hS 0 rfl rfl 0 (by decide) (hts _ kX0_goSeconds_3) (fun _ h9 => h9) rfl (by decide +kernel) rfl rfl (Nat.le_of_ble_eq_true rfl) dX0_goSeconds_69 (fun H locs hP hD hS => ?_)
          have hP : va_P D vwCl (wI y q F_21) H := by rw [eF_21]; exact hP
          have hD : va_D A (wI y q F_21) := by rw [eF_21]; exact hD
          obtain ⟨x_22, ex_22, h⟩ := q_let_ok h
          refine lv_iinc (v := x_22) (lv' := [(2, .int x_22), (0, .ref (q 0)), (1, .int v1), (3, .int x_5), (4, .int x_7)]) hx hb dX0_goSeconds_72 hl (k := 2) rfl (by rw [ex_22]; rfl) (by decide) rfl (fun ls hl => ?_)
          refine lv_goto (tgt := 2) hx hb dX0_goSeconds_75 (by decide) ?_
          exact ih2_1 x_22 F_21 K2_1 _ _ _ hP hD hS (lv_sub hl [1, 2, 0] rfl) h
        have L15_6 : ∀ (v1 : Int32) (v2 : Int32) (v3 : Int32) (k : Nat) (v4 : Int32) (F : Nat → Nat → Int32), (∀ (H : Heap) (locs : List Loc) (ls : Array Slot), va_P D vwCl (wI y q F_8) H → va_D A (wI y q F_8) → va_S A s.heap H locs → lv_has ls 5 [(0, .ref (q 0)), (1, .int v1), (2, .int v2), (3, .int v3), (4, .int x_7)] → W p l e ({ frames := 4, cells := 0, slots := 0, locals := 89 } : Room) s m ([.ref (q 0), .int p1] : List Value).toArray below meth c H locs 0 0 (MQ below (pQv D y (wI y q res) A) ([.ref (q 0), .int p1] : List Value).toArray s 0 0 A) (F0 m 58 ls [])) → ∀ (H : Heap) (locs : List Loc) (ls : Array Slot), va_P D vwCl (wI y q F) H → va_D A (wI y q F) → va_S A s.heap H locs → lv_has ls 5 [(0, .ref (q 0)), (1, .int v1), (2, .int v2), (3, .int v3), (4, .int v4)] → f_X0_goSeconds_L15 N v1 v2 v3 k v4 F = some (x_7, F_8) → W p l e ({ frames := 4, cells := 0, slots := 0, locals := 89 } : Room) s m ([.ref (q 0), .int p1] : List Value).toArray below meth c H locs 0 0 (MQ below (pQv D y (wI y q res) A) ([.ref (q 0), .int p1] : List Value).toArray s 0 0 A) (F0 m 15 ls []) := by
          intro v1 v2 v3 k
          induction k with
          | zero =>
            intro v4 F K15_6 H locs ls hP hD hS hl h
            have h : (none : Option (Int32 × (Nat → Nat → Int32))) = some _ := h
            cases h
          | succ k ih15_6 =>
            intro v4 F K15_6 H locs ls hP hD hS hl h
            rw [f_X0_goSeconds_L15] at h
            refine lv_iload hx hb dX0_goSeconds_15 (lv_at hl 4 rfl) ?_
            refine lv_aload_n hx hb dX0_goSeconds_17 rfl (lv_at hl 0 rfl) ?_
            refine va_get (D := D) (ci := 0) (v := .int (F 0 2)) (C := RX0) (T := TX0) (N := 13) hx hb hts uX0_goSeconds_X0 hown hK hP 0 rfl rfl 2 (by decide) (hts _ kX0_goSeconds_2) (fun _ h9 => h9) rfl dX0_goSeconds_18 ?_
            refine lv_icmp_ge (tgt := 58) hx hb dX0_goSeconds_21 (by decide) (fun c_9 => ?_) (fun c_9 => ?_)
            · have h := q_t c_9 h
              cases h
              exact K15_6 _ _ _ hP hD hS (lv_sub hl [0, 1, 2, 3, 4] rfl)
            · have h := q_f c_9 h
              refine lv_aload_n hx hb dX0_goSeconds_24 rfl (lv_at hl 0 rfl) ?_
              refine lv_aload_n hx hb dX0_goSeconds_25 rfl (lv_at hl 0 rfl) ?_
              refine va_get (D := D) (ci := 0) (v := .int (F 0 1)) (C := RX0) (T := TX0) (N := 13) hx hb hts uX0_goSeconds_X0 hown hK hP 0 rfl rfl 1 (by decide) (hts _ kX0_goSeconds_1) (fun _ h9 => h9) rfl dX0_goSeconds_26 ?_
              refine lv_bipush (v := 59) hx hb dX0_goSeconds_29 (by decide) ?_
              refine lv_icmp_lt (tgt := 38) hx hb dX0_goSeconds_31 (by decide) (fun c_10 => ?_) (fun c_10 => ?_)
              · have h := q_t c_10 h
                refine lv_aload_n hx hb dX0_goSeconds_38 rfl (lv_at hl 0 rfl) ?_
                refine va_get (D := D) (ci := 0) (v := .int (F 0 1)) (C := RX0) (T := TX0) (N := 13) hx hb hts uX0_goSeconds_X0 hown hK hP 0 rfl rfl 1 (by decide) (hts _ kX0_goSeconds_1) (fun _ h9 => h9) rfl dX0_goSeconds_39 ?_
                refine lv_iconst (v := 1) hx hb dX0_goSeconds_42 (by decide) ?_
                refine lv_iadd hx hb dX0_goSeconds_43 ?_
                obtain ⟨F_11, eF_11, h⟩ := q_let_ok h
                refine va_put (D := D) (ci := 0) (v := .int ((F 0 1) + (1 : Int32))) (ty := .int) (C := RX0) (T := TX0) (N := 13) hx hb hts uX0_goSeconds_X0 tyX0 tyX0_ok nmX0 hown hK hP hD hS 0 rfl rfl 1 (by decide) (hts _ kX0_goSeconds_1) (fun _ h9 => h9) rfl (by decide +kernel) rfl rfl (Nat.le_of_ble_eq_true rfl) dX0_goSeconds_44 (fun H locs hP hD hS => ?_)
                have hP : va_P D vwCl (wI y q F_11) H := by rw [eF_11]; exact hP
                have hD : va_D A (wI y q F_11) := by rw [eF_11]; exact hD
                refine lv_aload_n hx hb dX0_goSeconds_47 rfl (lv_at hl 0 rfl) ?_
                refine lv_iload_n hx hb dX0_goSeconds_48 rfl (lv_at hl 3 rfl) ?_
                obtain ⟨F_12, hc_13, h⟩ := q_bd_ok h
                refine q_cv (va_runV (As := [.int v3]) (rest := []) ⟨hx, hb, hml, hown, hts⟩ (c_X0_passBearing l D y t q _ N F_11 v3 F_12 hc_13) (cwV 1 hts gX0_goSeconds_X0_passBearing rfl rfl rfl eX0_passBearing ⟨Nat.le_of_ble_eq_true rfl, Nat.le_of_ble_eq_true rfl⟩) ⟨q_blind, (va_recv hK hP (ci := 0) (q0 := 0) rfl rfl), (q_pre hP hK hZ hD hA hS [0, 1, 2, 3, 4, 5, 6] rfl (by decide))⟩ rfl rfl hl.1 rfl (lv_room (Nat.le_of_ble_eq_true rfl)) dX0_goSeconds_49 ⟨Nat.zero_le _, Nat.zero_le _⟩) hP hD hA hS [0, 1, 2, 3, 4, 5, 6] rfl (by decide) rfl (fun H locs hP hD hS => ?_)
                have hP : va_P D vwCl (wI y q F_12) H := hP
                have hD : va_D A (wI y q F_12) := hD
                obtain ⟨x_14, ex_14, h⟩ := q_let_ok h
                refine lv_iinc (v := x_14) (lv' := [(4, .int x_14), (0, .ref (q 0)), (1, .int v1), (2, .int v2), (3, .int v3)]) hx hb dX0_goSeconds_52 hl (k := 4) rfl (by rw [ex_14]; rfl) (by decide) rfl (fun ls hl => ?_)
                refine lv_goto (tgt := 15) hx hb dX0_goSeconds_55 (by decide) ?_
                exact ih15_6 x_14 F_12 K15_6 _ _ _ hP hD hS (lv_sub hl [1, 2, 3, 4, 0] rfl) h
              · have h := q_f c_10 h
                refine lv_iconst (v := 0) hx hb dX0_goSeconds_34 (by decide) ?_
                refine lv_goto (tgt := 44) hx hb dX0_goSeconds_35 (by decide) ?_
                obtain ⟨F_15, eF_15, h⟩ := q_let_ok h
                refine va_put (D := D) (ci := 0) (v := .int (0 : Int32)) (ty := .int) (C := RX0) (T := TX0) (N := 13) hx hb hts uX0_goSeconds_X0 tyX0 tyX0_ok nmX0 hown hK hP hD hS 0 rfl rfl 1 (by decide) (hts _ kX0_goSeconds_1) (fun _ h9 => h9) rfl (by decide +kernel) rfl rfl (Nat.le_of_ble_eq_true rfl) dX0_goSeconds_44 (fun H locs hP hD hS => ?_)
                have hP : va_P D vwCl (wI y q F_15) H := by rw [eF_15]; exact hP
                have hD : va_D A (wI y q F_15) := by rw [eF_15]; exact hD
                refine lv_aload_n hx hb dX0_goSeconds_47 rfl (lv_at hl 0 rfl) ?_
                refine lv_iload_n hx hb dX0_goSeconds_48 rfl (lv_at hl 3 rfl) ?_
                obtain ⟨F_16, hc_17, h⟩ := q_bd_ok h
                refine q_cv (va_runV (As := [.int v3]) (rest := []) ⟨hx, hb, hml, hown, hts⟩ (c_X0_passBearing l D y t q _ N F_15 v3 F_16 hc_17) (cwV 1 hts gX0_goSeconds_X0_passBearing rfl rfl rfl eX0_passBearing ⟨Nat.le_of_ble_eq_true rfl, Nat.le_of_ble_eq_true rfl⟩) ⟨q_blind, (va_recv hK hP (ci := 0) (q0 := 0) rfl rfl), (q_pre hP hK hZ hD hA hS [0, 1, 2, 3, 4, 5, 6] rfl (by decide))⟩ rfl rfl hl.1 rfl (lv_room (Nat.le_of_ble_eq_true rfl)) dX0_goSeconds_49 ⟨Nat.zero_le _, Nat.zero_le _⟩) hP hD hA hS [0, 1, 2, 3, 4, 5, 6] rfl (by decide) rfl (fun H locs hP hD hS => ?_)
                have hP : va_P D vwCl (wI y q F_16) H := hP
                have hD : va_D A (wI y q F_16) := hD
                obtain ⟨x_18, ex_18, h⟩ := q_let_ok h
                refine lv_iinc (v := x_18) (lv' := [(4, .int x_18), (0, .ref (q 0)), (1, .int v1), (2, .int v2), (3, .int v3)]) hx hb dX0_goSeconds_52 hl (k := 4) rfl (by rw [ex_18]; rfl) (by decide) rfl (fun ls hl => ?_)
                refine lv_goto (tgt := 15) hx hb dX0_goSeconds_55 (by decide) ?_
                exact ih15_6 x_18 F_16 K15_6 _ _ _ hP hD hS (lv_sub hl [1, 2, 3, 4, 0] rfl) h
        exact L15_6 v1 v2 x_5 N (0 : Int32) F K15_6 _ _ _ hP hD hS (lv_sub hl [2, 3, 4, 1, 0] rfl) hL6
  exact L2_1 p1 N (0 : Int32) F K2_1 _ _ _ hP hD hS (lv_sub hl [1, 2, 0] rfl) hL1
theorem eX0_goSeconds : yX0_goSeconds.cls = RX0 ∧ yX0_goSeconds.cls ≠ "java/lang/invoke/MethodHandle" ∧ yX0_goSeconds.cls ≠ "java/lang/invoke/VarHandle" ∧ (parseMethodDescriptor yX0_goSeconds.desc).map (fun d => d.parameters.length) = some 1 := by decide +kernel
theorem uX0_isSo_X0 : ∀ w ∈ u_ws RX0 TX0 13, w ∈ wsX0_isSo := by decide +kernel
theorem kX0_isSo_1 : Cond.fieldLink RX0 43 "BeamSeats$Island" "wets" "[I" ∈ wsX0_isSo := List.mem_of_getElem? (i := 1) (by decide +kernel)
theorem kX0_isSo_2 : Cond.fieldLink RX0 46 "BeamSeats$Island" "goals" "[I" ∈ wsX0_isSo := List.mem_of_getElem? (i := 3) (by decide +kernel)
theorem kX0_isSo_3 : Cond.fieldLink RX0 37 "BeamSeats$Island" "places" "[I" ∈ wsX0_isSo := List.mem_of_getElem? (i := 2) (by decide +kernel)
def f_X0_isSo (N : Nat) (F : Nat → Nat → Int32) (p1 : Int32) (p2 : Int32) : Option (Int32) :=
  if p2 = 0 then
    q_bd (f_X0_isOn N F p1) (fun r_2 =>
    q_gb r_2 (some r_2))
  else
    if p2 = 1 then
      q_grd p1 8 (
      if (F 4 p1.toNatClampNeg) = 0 then
        some (1 : Int32)
      else
        some (0 : Int32))
    else
      if p2 = 2 then
        q_bd (f_X0_isLost N F p1) (fun r_8 =>
        q_gb r_8 (some r_8))
      else
        q_grd p1 8 (
        q_grd p1 8 (
        if (F 2 p1.toNatClampNeg) = (F 5 p1.toNatClampNeg) then
          q_bd (f_X0_isOn N F p1) (fun r_13 =>
          if r_13 = 0 then
            some (1 : Int32)
          else
            some (0 : Int32))
        else
          some (0 : Int32)))
set_option maxHeartbeats 4000000 in
set_option maxRecDepth 100000 in
theorem c_X0_isSo (l : Launch) (D : va_G) (y : Nat → ClassId) (t : Nat → Nat) (q : Nat → Nat) (sz N : Nat) (F : Nat → Nat → Int32) (p1 : Int32) (p2 : Int32) (res : Int32) (h : f_X0_isSo N F p1 p2 = some res) : Met l yX0_isSo wsX0_isSo ({ frames := 1, cells := 0, slots := 0, locals := 21 } : Room) (pPre D y t [.ref (q 0), .int p1, .int p2] (wI y q F) sz) (pQi D y res (wI y q F) (va_A (wI y q F) sz)) 0 0 (va_A (wI y q F) sz) := by
  refine q_start (Qc := (fun A => pQi D y res (wI y q F) A)) (cc := cX0_isSo) (maxL := 3) (ret := (some .boolean)) (by decide) rfl (Nat.le_of_ble_eq_true rfl) ?_
  intro p e s m below meth c A ls hx hb hr hts hown hlocks hmn hml hP hK hZ hD hA hS hl
  have hl : lv_has ls 3 [(0, .ref (q 0)), (1, .int p1), (2, .int p2)] := hl
  have hown : s.vm.findClass RX0 = some m.cls := hown
  unfold f_X0_isSo at h
  refine lv_iload_n hx hb dX0_isSo_0 rfl (lv_at hl 2 rfl) ?_
  by_cases c_1 : p2 = 0
  · have h := q_t c_1 h
    refine lv_tableIn (tgt := 28) (off := 27) hx hb dX0_isSo_1 (by rw [c_1]; decide) (by rw [c_1]; decide) (by rw [c_1]; rfl) (by decide) ?_
    refine lv_aload_n hx hb dX0_isSo_28 rfl (lv_at hl 0 rfl) ?_
    refine lv_iload_n hx hb dX0_isSo_29 rfl (lv_at hl 1 rfl) ?_
    obtain ⟨r_2, hc_3, h⟩ := q_bd_ok h
    refine q_ci (r := r_2) (va_runV (As := [.int p1]) (rest := []) ⟨hx, hb, hml, hown, hts⟩ (c_X0_isOn l D y t q _ N F p1 r_2 hc_3) (cwV 1 hts gX0_isSo_X0_isOn rfl rfl rfl eX0_isOn ⟨Nat.le_of_ble_eq_true rfl, Nat.le_of_ble_eq_true rfl⟩) ⟨q_blind, (va_recv hK hP (ci := 0) (q0 := 0) rfl rfl), (q_pre hP hK hZ hD hA hS [0, 1, 2, 3, 4, 5, 6] rfl (by decide))⟩ rfl rfl hl.1 rfl (lv_room (Nat.le_of_ble_eq_true rfl)) dX0_isSo_30 ⟨Nat.zero_le _, Nat.zero_le _⟩) hP hD hA hS [0, 1, 2, 3, 4, 5, 6] rfl (by decide) rfl (fun H locs hP hD hS => ?_)
    have hP : va_P D vwCl (wI y q F) H := hP
    have hD : va_D A (wI y q F) := hD
    obtain ⟨hg9, h⟩ := q_gb_ok h
    have e9 := Option.some.inj h
    exact q_zret hx hb hr hlocks hK hP hD hS dX0_isSo_33 (q_gb_nar hg9) (by first | rw [← e9] | rfl) (by first | rw [← e9] | rfl)
  · have h := q_f c_1 h
    by_cases c_4 : p2 = 1
    · have h := q_t c_4 h
      refine lv_tableIn (tgt := 34) (off := 33) hx hb dX0_isSo_1 (by rw [c_4]; decide) (by rw [c_4]; decide) (by rw [c_4]; rfl) (by decide) ?_
      refine lv_aload_n hx hb dX0_isSo_34 rfl (lv_at hl 0 rfl) ?_
      refine va_get (D := D) (ci := 0) (v := .ref (q 4)) (C := RX0) (T := TX0) (N := 13) hx hb hts uX0_isSo_X0 hown hK hP 0 rfl rfl 10 (by decide) (hts _ kX0_isSo_1) (fun _ h9 => h9) rfl dX0_isSo_35 ?_
      refine lv_iload_n hx hb dX0_isSo_38 rfl (lv_at hl 1 rfl) ?_
      obtain ⟨z_5, h⟩ := q_grd_ok h
      refine va_iald hx hb hK hP 4 0 rfl rfl z_5 dX0_isSo_39 ?_
      refine lv_if_ne (tgt := 47) hx hb dX0_isSo_40 (by decide) (fun c_6 => ?_) (fun c_6 => ?_)
      · have h := q_f c_6 h
        refine lv_iconst (v := 0) hx hb dX0_isSo_47 (by decide) ?_
        have e9 := Option.some.inj h
        exact q_zret hx hb hr hlocks hK hP hD hS dX0_isSo_48 rfl (by first | rw [← e9] | rfl) (by first | rw [← e9] | rfl)
      · have h := q_t c_6 h
        refine lv_iconst (v := 1) hx hb dX0_isSo_43 (by decide) ?_
        refine lv_goto (tgt := 48) hx hb dX0_isSo_44 (by decide) ?_
        have e9 := Option.some.inj h
        exact q_zret hx hb hr hlocks hK hP hD hS dX0_isSo_48 rfl (by first | rw [← e9] | rfl) (by first | rw [← e9] | rfl)
    · have h := q_f c_4 h
      by_cases c_7 : p2 = 2
      · have h := q_t c_7 h
        refine lv_tableIn (tgt := 49) (off := 48) hx hb dX0_isSo_1 (by rw [c_7]; decide) (by rw [c_7]; decide) (by rw [c_7]; rfl) (by decide) ?_
        refine lv_aload_n hx hb dX0_isSo_49 rfl (lv_at hl 0 rfl) ?_
        refine lv_iload_n hx hb dX0_isSo_50 rfl (lv_at hl 1 rfl) ?_
        obtain ⟨r_8, hc_9, h⟩ := q_bd_ok h
        refine q_ci (r := r_8) (va_runV (As := [.int p1]) (rest := []) ⟨hx, hb, hml, hown, hts⟩ (c_X0_isLost l D y t q _ N F p1 r_8 hc_9) (cwV 1 hts gX0_isSo_X0_isLost rfl rfl rfl eX0_isLost ⟨Nat.le_of_ble_eq_true rfl, Nat.le_of_ble_eq_true rfl⟩) ⟨q_blind, (va_recv hK hP (ci := 0) (q0 := 0) rfl rfl), (q_pre hP hK hZ hD hA hS [0, 1, 2, 3, 4, 5, 6] rfl (by decide))⟩ rfl rfl hl.1 rfl (lv_room (Nat.le_of_ble_eq_true rfl)) dX0_isSo_51 ⟨Nat.zero_le _, Nat.zero_le _⟩) hP hD hA hS [0, 1, 2, 3, 4, 5, 6] rfl (by decide) rfl (fun H locs hP hD hS => ?_)
        have hP : va_P D vwCl (wI y q F) H := hP
        have hD : va_D A (wI y q F) := hD
        obtain ⟨hg9, h⟩ := q_gb_ok h
        have e9 := Option.some.inj h
        exact q_zret hx hb hr hlocks hK hP hD hS dX0_isSo_54 (q_gb_nar hg9) (by first | rw [← e9] | rfl) (by first | rw [← e9] | rfl)
      · have h := q_f c_7 h
        have nc_1 := lv_neT c_1 (show ((0 : Int32)).toInt = 0 from by decide)
        have nc_4 := lv_neT c_4 (show ((1 : Int32)).toInt = 1 from by decide)
        have nc_7 := lv_neT c_7 (show ((2 : Int32)).toInt = 2 from by decide)
        refine lv_tableOut (tgt := 55) hx hb dX0_isSo_1 (by omega) (by decide) ?_
        refine lv_aload_n hx hb dX0_isSo_55 rfl (lv_at hl 0 rfl) ?_
        refine va_get (D := D) (ci := 0) (v := .ref (q 2)) (C := RX0) (T := TX0) (N := 13) hx hb hts uX0_isSo_X0 hown hK hP 0 rfl rfl 8 (by decide) (hts _ kX0_isSo_3) (fun _ h9 => h9) rfl dX0_isSo_56 ?_
        refine lv_iload_n hx hb dX0_isSo_59 rfl (lv_at hl 1 rfl) ?_
        obtain ⟨z_10, h⟩ := q_grd_ok h
        refine va_iald hx hb hK hP 2 0 rfl rfl z_10 dX0_isSo_60 ?_
        refine lv_aload_n hx hb dX0_isSo_61 rfl (lv_at hl 0 rfl) ?_
        refine va_get (D := D) (ci := 0) (v := .ref (q 5)) (C := RX0) (T := TX0) (N := 13) hx hb hts uX0_isSo_X0 hown hK hP 0 rfl rfl 11 (by decide) (hts _ kX0_isSo_2) (fun _ h9 => h9) rfl dX0_isSo_62 ?_
        refine lv_iload_n hx hb dX0_isSo_65 rfl (lv_at hl 1 rfl) ?_
        obtain ⟨z_11, h⟩ := q_grd_ok h
        refine va_iald hx hb hK hP 5 0 rfl rfl z_11 dX0_isSo_66 ?_
        refine lv_icmp_ne (tgt := 82) hx hb dX0_isSo_67 (by decide) (fun c_12 => ?_) (fun c_12 => ?_)
        · have h := q_f c_12 h
          refine lv_iconst (v := 0) hx hb dX0_isSo_82 (by decide) ?_
          have e9 := Option.some.inj h
          exact q_zret hx hb hr hlocks hK hP hD hS dX0_isSo_83 rfl (by first | rw [← e9] | rfl) (by first | rw [← e9] | rfl)
        · have h := q_t c_12 h
          refine lv_aload_n hx hb dX0_isSo_70 rfl (lv_at hl 0 rfl) ?_
          refine lv_iload_n hx hb dX0_isSo_71 rfl (lv_at hl 1 rfl) ?_
          obtain ⟨r_13, hc_14, h⟩ := q_bd_ok h
          refine q_ci (r := r_13) (va_runV (As := [.int p1]) (rest := []) ⟨hx, hb, hml, hown, hts⟩ (c_X0_isOn l D y t q _ N F p1 r_13 hc_14) (cwV 1 hts gX0_isSo_X0_isOn rfl rfl rfl eX0_isOn ⟨Nat.le_of_ble_eq_true rfl, Nat.le_of_ble_eq_true rfl⟩) ⟨q_blind, (va_recv hK hP (ci := 0) (q0 := 0) rfl rfl), (q_pre hP hK hZ hD hA hS [0, 1, 2, 3, 4, 5, 6] rfl (by decide))⟩ rfl rfl hl.1 rfl (lv_room (Nat.le_of_ble_eq_true rfl)) dX0_isSo_72 ⟨Nat.zero_le _, Nat.zero_le _⟩) hP hD hA hS [0, 1, 2, 3, 4, 5, 6] rfl (by decide) rfl (fun H locs hP hD hS => ?_)
          have hP : va_P D vwCl (wI y q F) H := hP
          have hD : va_D A (wI y q F) := hD
          refine lv_if_ne (tgt := 82) hx hb dX0_isSo_75 (by decide) (fun c_15 => ?_) (fun c_15 => ?_)
          · have h := q_f c_15 h
            refine lv_iconst (v := 0) hx hb dX0_isSo_82 (by decide) ?_
            have e9 := Option.some.inj h
            exact q_zret hx hb hr hlocks hK hP hD hS dX0_isSo_83 rfl (by first | rw [← e9] | rfl) (by first | rw [← e9] | rfl)
          · have h := q_t c_15 h
            refine lv_iconst (v := 1) hx hb dX0_isSo_78 (by decide) ?_
            refine lv_goto (tgt := 83) hx hb dX0_isSo_79 (by decide) ?_
            have e9 := Option.some.inj h
            exact q_zret hx hb hr hlocks hK hP hD hS dX0_isSo_83 rfl (by first | rw [← e9] | rfl) (by first | rw [← e9] | rfl)
theorem eX0_isSo : yX0_isSo.cls = RX0 ∧ yX0_isSo.cls ≠ "java/lang/invoke/MethodHandle" ∧ yX0_isSo.cls ≠ "java/lang/invoke/VarHandle" ∧ (parseMethodDescriptor yX0_isSo.desc).map (fun d => d.parameters.length) = some 2 := by decide +kernel
end
section
theorem zz_end : True := trivial
end
