section
-- ===== PART A: goes FIRST, ahead of the names: the tables' words, and 'selects' of the private methods out of them =====
/-- a private method of a class that the tables say can be made, by its rows of tables_1 -/
def lw_okq (q : MethodName × Nat) : Prop := (q.1.cls ≠ "java/lang/invoke/MethodHandle" ∧ q.1.cls ≠ "java/lang/invoke/VarHandle") ∧ Cond.instantiable q.1.cls q.2 ∈ tables_1 ∧ Cond.privateMethod q.1 ∈ tables_1 ∧ Cond.instanceMethod q.1 ∈ tables_1
theorem lw_p0 : lw_okq (⟨"WaistcoatGreen$Reader", "next", "()V"⟩, 8) := ⟨⟨by decide +kernel, by decide +kernel⟩, List.mem_of_getElem? (i := 25) (by decide +kernel), List.mem_of_getElem? (i := 348) (by decide +kernel), List.mem_of_getElem? (i := 349) (by decide +kernel)⟩
theorem lw_p1 : lw_okq (⟨"WaistcoatGreen$Reader", "kindAt", "(I)I"⟩, 8) := ⟨⟨by decide +kernel, by decide +kernel⟩, List.mem_of_getElem? (i := 25) (by decide +kernel), List.mem_of_getElem? (i := 352) (by decide +kernel), List.mem_of_getElem? (i := 353) (by decide +kernel)⟩
theorem lw_p2 : lw_okq (⟨"WaistcoatGreen$Reader", "readGreen", "(LWaistcoatGreen$Green;)V"⟩, 8) := ⟨⟨by decide +kernel, by decide +kernel⟩, List.mem_of_getElem? (i := 25) (by decide +kernel), List.mem_of_getElem? (i := 357) (by decide +kernel), List.mem_of_getElem? (i := 358) (by decide +kernel)⟩
theorem lw_p3 : lw_okq (⟨"WaistcoatGreen$Reader", "pass", "(Ljava/lang/String;)V"⟩, 8) := ⟨⟨by decide +kernel, by decide +kernel⟩, List.mem_of_getElem? (i := 25) (by decide +kernel), List.mem_of_getElem? (i := 362) (by decide +kernel), List.mem_of_getElem? (i := 363) (by decide +kernel)⟩
theorem lw_p4 : lw_okq (⟨"WaistcoatGreen$Reader", "isAt", "(Ljava/lang/String;)Z"⟩, 8) := ⟨⟨by decide +kernel, by decide +kernel⟩, List.mem_of_getElem? (i := 25) (by decide +kernel), List.mem_of_getElem? (i := 366) (by decide +kernel), List.mem_of_getElem? (i := 367) (by decide +kernel)⟩
theorem lw_p5 : lw_okq (⟨"WaistcoatGreen$Reader", "blame", "(I)V"⟩, 8) := ⟨⟨by decide +kernel, by decide +kernel⟩, List.mem_of_getElem? (i := 25) (by decide +kernel), List.mem_of_getElem? (i := 418) (by decide +kernel), List.mem_of_getElem? (i := 419) (by decide +kernel)⟩
theorem lw_p6 : lw_okq (⟨"WaistcoatGreen$Reader", "readNamed", "(Ljava/lang/String;II)I"⟩, 8) := ⟨⟨by decide +kernel, by decide +kernel⟩, List.mem_of_getElem? (i := 25) (by decide +kernel), List.mem_of_getElem? (i := 423) (by decide +kernel), List.mem_of_getElem? (i := 424) (by decide +kernel)⟩
theorem lw_p7 : lw_okq (⟨"WaistcoatGreen$Reader", "readNumber", "(III)I"⟩, 8) := ⟨⟨by decide +kernel, by decide +kernel⟩, List.mem_of_getElem? (i := 25) (by decide +kernel), List.mem_of_getElem? (i := 427) (by decide +kernel), List.mem_of_getElem? (i := 428) (by decide +kernel)⟩
theorem lw_p8 : lw_okq (⟨"WaistcoatGreen$Reader", "readVillager", "(LWaistcoatGreen$Green;)V"⟩, 8) := ⟨⟨by decide +kernel, by decide +kernel⟩, List.mem_of_getElem? (i := 25) (by decide +kernel), List.mem_of_getElem? (i := 436) (by decide +kernel), List.mem_of_getElem? (i := 437) (by decide +kernel)⟩
theorem lw_p9 : lw_okq (⟨"WaistcoatGreen$Reader", "readWears", "(LWaistcoatGreen$Green;)V"⟩, 8) := ⟨⟨by decide +kernel, by decide +kernel⟩, List.mem_of_getElem? (i := 25) (by decide +kernel), List.mem_of_getElem? (i := 443) (by decide +kernel), List.mem_of_getElem? (i := 444) (by decide +kernel)⟩
theorem lw_p10 : lw_okq (⟨"WaistcoatGreen$Reader", "readHand", "(LWaistcoatGreen$Green;)V"⟩, 8) := ⟨⟨by decide +kernel, by decide +kernel⟩, List.mem_of_getElem? (i := 25) (by decide +kernel), List.mem_of_getElem? (i := 452) (by decide +kernel), List.mem_of_getElem? (i := 453) (by decide +kernel)⟩
theorem lw_p11 : lw_okq (⟨"WaistcoatGreen$Reader", "readFrost", "(LWaistcoatGreen$Green;)V"⟩, 8) := ⟨⟨by decide +kernel, by decide +kernel⟩, List.mem_of_getElem? (i := 25) (by decide +kernel), List.mem_of_getElem? (i := 461) (by decide +kernel), List.mem_of_getElem? (i := 462) (by decide +kernel)⟩
theorem lw_p12 : lw_okq (⟨"WaistcoatGreen$Reader", "closeLine", "(LWaistcoatGreen$Green;)V"⟩, 8) := ⟨⟨by decide +kernel, by decide +kernel⟩, List.mem_of_getElem? (i := 25) (by decide +kernel), List.mem_of_getElem? (i := 470) (by decide +kernel), List.mem_of_getElem? (i := 471) (by decide +kernel)⟩
theorem lw_p13 : lw_okq (⟨"WaistcoatGreen", "settle", "()V"⟩, 11) := ⟨⟨by decide +kernel, by decide +kernel⟩, List.mem_of_getElem? (i := 17) (by decide +kernel), List.mem_of_getElem? (i := 481) (by decide +kernel), List.mem_of_getElem? (i := 482) (by decide +kernel)⟩
theorem lw_p14 : lw_okq (⟨"WaistcoatGreen$Winter", "giveTo", "(I)V"⟩, 12) := ⟨⟨by decide +kernel, by decide +kernel⟩, List.mem_of_getElem? (i := 160) (by decide +kernel), List.mem_of_getElem? (i := 494) (by decide +kernel), List.mem_of_getElem? (i := 495) (by decide +kernel)⟩
theorem lw_p15 : lw_okq (⟨"WaistcoatGreen$Winter", "countSongs", "()V"⟩, 12) := ⟨⟨by decide +kernel, by decide +kernel⟩, List.mem_of_getElem? (i := 160) (by decide +kernel), List.mem_of_getElem? (i := 498) (by decide +kernel), List.mem_of_getElem? (i := 499) (by decide +kernel)⟩
def lw_privs_1 : List (MethodName × Nat) := [(⟨"WaistcoatGreen$Reader", "next", "()V"⟩, 8), (⟨"WaistcoatGreen$Reader", "kindAt", "(I)I"⟩, 8), (⟨"WaistcoatGreen$Reader", "readGreen", "(LWaistcoatGreen$Green;)V"⟩, 8), (⟨"WaistcoatGreen$Reader", "pass", "(Ljava/lang/String;)V"⟩, 8), (⟨"WaistcoatGreen$Reader", "isAt", "(Ljava/lang/String;)Z"⟩, 8), (⟨"WaistcoatGreen$Reader", "blame", "(I)V"⟩, 8), (⟨"WaistcoatGreen$Reader", "readNamed", "(Ljava/lang/String;II)I"⟩, 8), (⟨"WaistcoatGreen$Reader", "readNumber", "(III)I"⟩, 8), (⟨"WaistcoatGreen$Reader", "readVillager", "(LWaistcoatGreen$Green;)V"⟩, 8), (⟨"WaistcoatGreen$Reader", "readWears", "(LWaistcoatGreen$Green;)V"⟩, 8), (⟨"WaistcoatGreen$Reader", "readHand", "(LWaistcoatGreen$Green;)V"⟩, 8), (⟨"WaistcoatGreen$Reader", "readFrost", "(LWaistcoatGreen$Green;)V"⟩, 8), (⟨"WaistcoatGreen$Reader", "closeLine", "(LWaistcoatGreen$Green;)V"⟩, 8), (⟨"WaistcoatGreen", "settle", "()V"⟩, 11), (⟨"WaistcoatGreen$Winter", "giveTo", "(I)V"⟩, 12), (⟨"WaistcoatGreen$Winter", "countSongs", "()V"⟩, 12)]
theorem lw_r1 : ∀ q ∈ lw_privs_1, lw_okq q := List.forall_mem_cons.mpr ⟨lw_p0, List.forall_mem_cons.mpr ⟨lw_p1, List.forall_mem_cons.mpr ⟨lw_p2, List.forall_mem_cons.mpr ⟨lw_p3, List.forall_mem_cons.mpr ⟨lw_p4, List.forall_mem_cons.mpr ⟨lw_p5, List.forall_mem_cons.mpr ⟨lw_p6, List.forall_mem_cons.mpr ⟨lw_p7, List.forall_mem_cons.mpr ⟨lw_p8, List.forall_mem_cons.mpr ⟨lw_p9, List.forall_mem_cons.mpr ⟨lw_p10, List.forall_mem_cons.mpr ⟨lw_p11, List.forall_mem_cons.mpr ⟨lw_p12, List.forall_mem_cons.mpr ⟨lw_p13, List.forall_mem_cons.mpr ⟨lw_p14, List.forall_mem_cons.mpr ⟨lw_p15, fun _ h => absurd h List.not_mem_nil⟩⟩⟩⟩⟩⟩⟩⟩⟩⟩⟩⟩⟩⟩⟩⟩
theorem lw_p16 : lw_okq (⟨"WaistcoatGreen$Winter", "passedByLaw", "(I)I"⟩, 12) := ⟨⟨by decide +kernel, by decide +kernel⟩, List.mem_of_getElem? (i := 160) (by decide +kernel), List.mem_of_getElem? (i := 516) (by decide +kernel), List.mem_of_getElem? (i := 517) (by decide +kernel)⟩
theorem lw_p17 : lw_okq (⟨"WaistcoatGreen$Winter", "isPreferred", "(III)Z"⟩, 12) := ⟨⟨by decide +kernel, by decide +kernel⟩, List.mem_of_getElem? (i := 160) (by decide +kernel), List.mem_of_getElem? (i := 540) (by decide +kernel), List.mem_of_getElem? (i := 541) (by decide +kernel)⟩
theorem lw_p18 : lw_okq (⟨"WaistcoatGreen", "leastCover", "()I"⟩, 11) := ⟨⟨by decide +kernel, by decide +kernel⟩, List.mem_of_getElem? (i := 17) (by decide +kernel), List.mem_of_getElem? (i := 589) (by decide +kernel), List.mem_of_getElem? (i := 590) (by decide +kernel)⟩
theorem lw_p19 : lw_okq (⟨"WaistcoatGreen", "morningsWith", "(I)I"⟩, 11) := ⟨⟨by decide +kernel, by decide +kernel⟩, List.mem_of_getElem? (i := 17) (by decide +kernel), List.mem_of_getElem? (i := 647) (by decide +kernel), List.mem_of_getElem? (i := 648) (by decide +kernel)⟩
theorem lw_p20 : lw_okq (⟨"WaistcoatGreen", "firstWith", "(I)I"⟩, 11) := ⟨⟨by decide +kernel, by decide +kernel⟩, List.mem_of_getElem? (i := 17) (by decide +kernel), List.mem_of_getElem? (i := 655) (by decide +kernel), List.mem_of_getElem? (i := 656) (by decide +kernel)⟩
theorem lw_p21 : lw_okq (⟨"WaistcoatGreen", "bestLie", "(I)I"⟩, 11) := ⟨⟨by decide +kernel, by decide +kernel⟩, List.mem_of_getElem? (i := 17) (by decide +kernel), List.mem_of_getElem? (i := 764) (by decide +kernel), List.mem_of_getElem? (i := 765) (by decide +kernel)⟩
theorem lw_p22 : lw_okq (⟨"WaistcoatGreen", "gainOf", "(I)I"⟩, 11) := ⟨⟨by decide +kernel, by decide +kernel⟩, List.mem_of_getElem? (i := 17) (by decide +kernel), List.mem_of_getElem? (i := 776) (by decide +kernel), List.mem_of_getElem? (i := 777) (by decide +kernel)⟩
theorem lw_p23 : lw_okq (⟨"WaistcoatGreen", "sumTried", "()I"⟩, 11) := ⟨⟨by decide +kernel, by decide +kernel⟩, List.mem_of_getElem? (i := 17) (by decide +kernel), List.mem_of_getElem? (i := 788) (by decide +kernel), List.mem_of_getElem? (i := 789) (by decide +kernel)⟩
theorem lw_p24 : lw_okq (⟨"WaistcoatGreen", "sumJoined", "(II)I"⟩, 11) := ⟨⟨by decide +kernel, by decide +kernel⟩, List.mem_of_getElem? (i := 17) (by decide +kernel), List.mem_of_getElem? (i := 796) (by decide +kernel), List.mem_of_getElem? (i := 797) (by decide +kernel)⟩
theorem lw_p25 : lw_okq (⟨"WaistcoatGreen", "canPlan", "(I)Z"⟩, 11) := ⟨⟨by decide +kernel, by decide +kernel⟩, List.mem_of_getElem? (i := 17) (by decide +kernel), List.mem_of_getElem? (i := 804) (by decide +kernel), List.mem_of_getElem? (i := 805) (by decide +kernel)⟩
theorem lw_p26 : lw_okq (⟨"WaistcoatGreen$Planner", "weigh", "(I)V"⟩, 5) := ⟨⟨by decide +kernel, by decide +kernel⟩, List.mem_of_getElem? (i := 214) (by decide +kernel), List.mem_of_getElem? (i := 820) (by decide +kernel), List.mem_of_getElem? (i := 821) (by decide +kernel)⟩
theorem lw_p27 : lw_okq (⟨"WaistcoatGreen$Planner", "canGo", "(II)Z"⟩, 5) := ⟨⟨by decide +kernel, by decide +kernel⟩, List.mem_of_getElem? (i := 214) (by decide +kernel), List.mem_of_getElem? (i := 825) (by decide +kernel), List.mem_of_getElem? (i := 826) (by decide +kernel)⟩
theorem lw_p28 : lw_okq (⟨"WaistcoatGreen", "guessCold", "(II)I"⟩, 11) := ⟨⟨by decide +kernel, by decide +kernel⟩, List.mem_of_getElem? (i := 17) (by decide +kernel), List.mem_of_getElem? (i := 843) (by decide +kernel), List.mem_of_getElem? (i := 844) (by decide +kernel)⟩
theorem lw_p29 : lw_okq (⟨"WaistcoatGreen", "whyNotSeen", "(I)I"⟩, 11) := ⟨⟨by decide +kernel, by decide +kernel⟩, List.mem_of_getElem? (i := 17) (by decide +kernel), List.mem_of_getElem? (i := 847) (by decide +kernel), List.mem_of_getElem? (i := 848) (by decide +kernel)⟩
theorem lw_p30 : lw_okq (⟨"WaistcoatGreen", "sumByLaw", "(I)I"⟩, 11) := ⟨⟨by decide +kernel, by decide +kernel⟩, List.mem_of_getElem? (i := 17) (by decide +kernel), List.mem_of_getElem? (i := 908) (by decide +kernel), List.mem_of_getElem? (i := 909) (by decide +kernel)⟩
theorem lw_p31 : lw_okq (⟨"WaistcoatGreen", "worthOf", "(I)I"⟩, 11) := ⟨⟨by decide +kernel, by decide +kernel⟩, List.mem_of_getElem? (i := 17) (by decide +kernel), List.mem_of_getElem? (i := 920) (by decide +kernel), List.mem_of_getElem? (i := 921) (by decide +kernel)⟩
def lw_privs_2 : List (MethodName × Nat) := [(⟨"WaistcoatGreen$Winter", "passedByLaw", "(I)I"⟩, 12), (⟨"WaistcoatGreen$Winter", "isPreferred", "(III)Z"⟩, 12), (⟨"WaistcoatGreen", "leastCover", "()I"⟩, 11), (⟨"WaistcoatGreen", "morningsWith", "(I)I"⟩, 11), (⟨"WaistcoatGreen", "firstWith", "(I)I"⟩, 11), (⟨"WaistcoatGreen", "bestLie", "(I)I"⟩, 11), (⟨"WaistcoatGreen", "gainOf", "(I)I"⟩, 11), (⟨"WaistcoatGreen", "sumTried", "()I"⟩, 11), (⟨"WaistcoatGreen", "sumJoined", "(II)I"⟩, 11), (⟨"WaistcoatGreen", "canPlan", "(I)Z"⟩, 11), (⟨"WaistcoatGreen$Planner", "weigh", "(I)V"⟩, 5), (⟨"WaistcoatGreen$Planner", "canGo", "(II)Z"⟩, 5), (⟨"WaistcoatGreen", "guessCold", "(II)I"⟩, 11), (⟨"WaistcoatGreen", "whyNotSeen", "(I)I"⟩, 11), (⟨"WaistcoatGreen", "sumByLaw", "(I)I"⟩, 11), (⟨"WaistcoatGreen", "worthOf", "(I)I"⟩, 11)]
theorem lw_r2 : ∀ q ∈ lw_privs_2, lw_okq q := List.forall_mem_cons.mpr ⟨lw_p16, List.forall_mem_cons.mpr ⟨lw_p17, List.forall_mem_cons.mpr ⟨lw_p18, List.forall_mem_cons.mpr ⟨lw_p19, List.forall_mem_cons.mpr ⟨lw_p20, List.forall_mem_cons.mpr ⟨lw_p21, List.forall_mem_cons.mpr ⟨lw_p22, List.forall_mem_cons.mpr ⟨lw_p23, List.forall_mem_cons.mpr ⟨lw_p24, List.forall_mem_cons.mpr ⟨lw_p25, List.forall_mem_cons.mpr ⟨lw_p26, List.forall_mem_cons.mpr ⟨lw_p27, List.forall_mem_cons.mpr ⟨lw_p28, List.forall_mem_cons.mpr ⟨lw_p29, List.forall_mem_cons.mpr ⟨lw_p30, List.forall_mem_cons.mpr ⟨lw_p31, fun _ h => absurd h List.not_mem_nil⟩⟩⟩⟩⟩⟩⟩⟩⟩⟩⟩⟩⟩⟩⟩⟩
theorem lw_p32 : lw_okq (⟨"WaistcoatGreen", "areTwo", "(II)Z"⟩, 11) := ⟨⟨by decide +kernel, by decide +kernel⟩, List.mem_of_getElem? (i := 17) (by decide +kernel), List.mem_of_getElem? (i := 946) (by decide +kernel), List.mem_of_getElem? (i := 947) (by decide +kernel)⟩
theorem lw_p33 : lw_okq (⟨"WaistcoatGreen", "isAtRest", "(IIII)Z"⟩, 11) := ⟨⟨by decide +kernel, by decide +kernel⟩, List.mem_of_getElem? (i := 17) (by decide +kernel), List.mem_of_getElem? (i := 950) (by decide +kernel), List.mem_of_getElem? (i := 951) (by decide +kernel)⟩
theorem lw_p34 : lw_okq (⟨"WaistcoatGreen", "winOf", "(IIII)I"⟩, 11) := ⟨⟨by decide +kernel, by decide +kernel⟩, List.mem_of_getElem? (i := 17) (by decide +kernel), List.mem_of_getElem? (i := 954) (by decide +kernel), List.mem_of_getElem? (i := 955) (by decide +kernel)⟩
theorem lw_p35 : lw_okq (⟨"WaistcoatGreen", "canChance", "(I)Z"⟩, 11) := ⟨⟨by decide +kernel, by decide +kernel⟩, List.mem_of_getElem? (i := 17) (by decide +kernel), List.mem_of_getElem? (i := 966) (by decide +kernel), List.mem_of_getElem? (i := 967) (by decide +kernel)⟩
theorem lw_p36 : lw_okq (⟨"WaistcoatGreen", "tryWinter", "(II)J"⟩, 11) := ⟨⟨by decide +kernel, by decide +kernel⟩, List.mem_of_getElem? (i := 17) (by decide +kernel), List.mem_of_getElem? (i := 970) (by decide +kernel), List.mem_of_getElem? (i := 971) (by decide +kernel)⟩
theorem lw_p37 : lw_okq (⟨"WaistcoatGreen", "drawHard", "(I)I"⟩, 11) := ⟨⟨by decide +kernel, by decide +kernel⟩, List.mem_of_getElem? (i := 17) (by decide +kernel), List.mem_of_getElem? (i := 1010) (by decide +kernel), List.mem_of_getElem? (i := 1011) (by decide +kernel)⟩
theorem lw_p38 : lw_okq (⟨"WaistcoatGreen", "slotsWithRow", "()I"⟩, 11) := ⟨⟨by decide +kernel, by decide +kernel⟩, List.mem_of_getElem? (i := 17) (by decide +kernel), List.mem_of_getElem? (i := 1035) (by decide +kernel), List.mem_of_getElem? (i := 1036) (by decide +kernel)⟩
theorem lw_p39 : lw_okq (⟨"WaistcoatGreenModel", "four", "(I)V"⟩, 47) := ⟨⟨by decide +kernel, by decide +kernel⟩, List.mem_of_getElem? (i := 1072) (by decide +kernel), List.mem_of_getElem? (i := 1246) (by decide +kernel), List.mem_of_getElem? (i := 1247) (by decide +kernel)⟩
theorem lw_p40 : lw_okq (⟨"WaistcoatGreenModel", "clears", "()V"⟩, 47) := ⟨⟨by decide +kernel, by decide +kernel⟩, List.mem_of_getElem? (i := 1072) (by decide +kernel), List.mem_of_getElem? (i := 1262) (by decide +kernel), List.mem_of_getElem? (i := 1263) (by decide +kernel)⟩
theorem lw_p41 : lw_okq (⟨"WaistcoatGreenModel", "tells", "(II)V"⟩, 47) := ⟨⟨by decide +kernel, by decide +kernel⟩, List.mem_of_getElem? (i := 1072) (by decide +kernel), List.mem_of_getElem? (i := 1266) (by decide +kernel), List.mem_of_getElem? (i := 1267) (by decide +kernel)⟩
theorem lw_p42 : lw_okq (⟨"WaistcoatGreenModel", "begins", "()V"⟩, 47) := ⟨⟨by decide +kernel, by decide +kernel⟩, List.mem_of_getElem? (i := 1072) (by decide +kernel), List.mem_of_getElem? (i := 1270) (by decide +kernel), List.mem_of_getElem? (i := 1271) (by decide +kernel)⟩
theorem lw_p43 : lw_okq (⟨"WaistcoatGreenModel", "next", "()V"⟩, 47) := ⟨⟨by decide +kernel, by decide +kernel⟩, List.mem_of_getElem? (i := 1072) (by decide +kernel), List.mem_of_getElem? (i := 1274) (by decide +kernel), List.mem_of_getElem? (i := 1275) (by decide +kernel)⟩
theorem lw_p44 : lw_okq (⟨"WaistcoatGreenModel", "isByte", "(III)Z"⟩, 47) := ⟨⟨by decide +kernel, by decide +kernel⟩, List.mem_of_getElem? (i := 1072) (by decide +kernel), List.mem_of_getElem? (i := 1278) (by decide +kernel), List.mem_of_getElem? (i := 1279) (by decide +kernel)⟩
theorem lw_p45 : lw_okq (⟨"WaistcoatGreenModel", "isGood", "()Z"⟩, 47) := ⟨⟨by decide +kernel, by decide +kernel⟩, List.mem_of_getElem? (i := 1072) (by decide +kernel), List.mem_of_getElem? (i := 1287) (by decide +kernel), List.mem_of_getElem? (i := 1288) (by decide +kernel)⟩
theorem lw_p46 : lw_okq (⟨"WaistcoatGreenModel", "asks", "(J)V"⟩, 47) := ⟨⟨by decide +kernel, by decide +kernel⟩, List.mem_of_getElem? (i := 1072) (by decide +kernel), List.mem_of_getElem? (i := 1292) (by decide +kernel), List.mem_of_getElem? (i := 1293) (by decide +kernel)⟩
theorem lw_p47 : lw_okq (⟨"WaistcoatGreenModel", "takesWord", "(J)Z"⟩, 47) := ⟨⟨by decide +kernel, by decide +kernel⟩, List.mem_of_getElem? (i := 1072) (by decide +kernel), List.mem_of_getElem? (i := 1296) (by decide +kernel), List.mem_of_getElem? (i := 1297) (by decide +kernel)⟩
def lw_privs_3 : List (MethodName × Nat) := [(⟨"WaistcoatGreen", "areTwo", "(II)Z"⟩, 11), (⟨"WaistcoatGreen", "isAtRest", "(IIII)Z"⟩, 11), (⟨"WaistcoatGreen", "winOf", "(IIII)I"⟩, 11), (⟨"WaistcoatGreen", "canChance", "(I)Z"⟩, 11), (⟨"WaistcoatGreen", "tryWinter", "(II)J"⟩, 11), (⟨"WaistcoatGreen", "drawHard", "(I)I"⟩, 11), (⟨"WaistcoatGreen", "slotsWithRow", "()I"⟩, 11), (⟨"WaistcoatGreenModel", "four", "(I)V"⟩, 47), (⟨"WaistcoatGreenModel", "clears", "()V"⟩, 47), (⟨"WaistcoatGreenModel", "tells", "(II)V"⟩, 47), (⟨"WaistcoatGreenModel", "begins", "()V"⟩, 47), (⟨"WaistcoatGreenModel", "next", "()V"⟩, 47), (⟨"WaistcoatGreenModel", "isByte", "(III)Z"⟩, 47), (⟨"WaistcoatGreenModel", "isGood", "()Z"⟩, 47), (⟨"WaistcoatGreenModel", "asks", "(J)V"⟩, 47), (⟨"WaistcoatGreenModel", "takesWord", "(J)Z"⟩, 47)]
theorem lw_r3 : ∀ q ∈ lw_privs_3, lw_okq q := List.forall_mem_cons.mpr ⟨lw_p32, List.forall_mem_cons.mpr ⟨lw_p33, List.forall_mem_cons.mpr ⟨lw_p34, List.forall_mem_cons.mpr ⟨lw_p35, List.forall_mem_cons.mpr ⟨lw_p36, List.forall_mem_cons.mpr ⟨lw_p37, List.forall_mem_cons.mpr ⟨lw_p38, List.forall_mem_cons.mpr ⟨lw_p39, List.forall_mem_cons.mpr ⟨lw_p40, List.forall_mem_cons.mpr ⟨lw_p41, List.forall_mem_cons.mpr ⟨lw_p42, List.forall_mem_cons.mpr ⟨lw_p43, List.forall_mem_cons.mpr ⟨lw_p44, List.forall_mem_cons.mpr ⟨lw_p45, List.forall_mem_cons.mpr ⟨lw_p46, List.forall_mem_cons.mpr ⟨lw_p47, fun _ h => absurd h List.not_mem_nil⟩⟩⟩⟩⟩⟩⟩⟩⟩⟩⟩⟩⟩⟩⟩⟩
theorem lw_p48 : lw_okq (⟨"WaistcoatGreenModel", "is", "(J)Z"⟩, 47) := ⟨⟨by decide +kernel, by decide +kernel⟩, List.mem_of_getElem? (i := 1072) (by decide +kernel), List.mem_of_getElem? (i := 1300) (by decide +kernel), List.mem_of_getElem? (i := 1301) (by decide +kernel)⟩
theorem lw_p49 : lw_okq (⟨"WaistcoatGreenModel", "fails", "(I)V"⟩, 47) := ⟨⟨by decide +kernel, by decide +kernel⟩, List.mem_of_getElem? (i := 1072) (by decide +kernel), List.mem_of_getElem? (i := 1304) (by decide +kernel), List.mem_of_getElem? (i := 1305) (by decide +kernel)⟩
theorem lw_p50 : lw_okq (⟨"WaistcoatGreenModel", "number", "(JII)I"⟩, 47) := ⟨⟨by decide +kernel, by decide +kernel⟩, List.mem_of_getElem? (i := 1072) (by decide +kernel), List.mem_of_getElem? (i := 1309) (by decide +kernel), List.mem_of_getElem? (i := 1310) (by decide +kernel)⟩
theorem lw_p51 : lw_okq (⟨"WaistcoatGreenModel", "number", "(II)I"⟩, 47) := ⟨⟨by decide +kernel, by decide +kernel⟩, List.mem_of_getElem? (i := 1072) (by decide +kernel), List.mem_of_getElem? (i := 1313) (by decide +kernel), List.mem_of_getElem? (i := 1314) (by decide +kernel)⟩
theorem lw_p52 : lw_okq (⟨"WaistcoatGreenModel", "lineHere", "()V"⟩, 47) := ⟨⟨by decide +kernel, by decide +kernel⟩, List.mem_of_getElem? (i := 1072) (by decide +kernel), List.mem_of_getElem? (i := 1321) (by decide +kernel), List.mem_of_getElem? (i := 1322) (by decide +kernel)⟩
theorem lw_p53 : lw_okq (⟨"WaistcoatGreenModel", "isRoom", "(ZII)Z"⟩, 47) := ⟨⟨by decide +kernel, by decide +kernel⟩, List.mem_of_getElem? (i := 1072) (by decide +kernel), List.mem_of_getElem? (i := 1326) (by decide +kernel), List.mem_of_getElem? (i := 1327) (by decide +kernel)⟩
theorem lw_p54 : lw_okq (⟨"WaistcoatGreenModel", "hasRead", "(I)I"⟩, 47) := ⟨⟨by decide +kernel, by decide +kernel⟩, List.mem_of_getElem? (i := 1072) (by decide +kernel), List.mem_of_getElem? (i := 1330) (by decide +kernel), List.mem_of_getElem? (i := 1331) (by decide +kernel)⟩
theorem lw_p55 : lw_okq (⟨"WaistcoatGreenModel", "villagerLine", "()V"⟩, 47) := ⟨⟨by decide +kernel, by decide +kernel⟩, List.mem_of_getElem? (i := 1072) (by decide +kernel), List.mem_of_getElem? (i := 1334) (by decide +kernel), List.mem_of_getElem? (i := 1335) (by decide +kernel)⟩
theorem lw_p56 : lw_okq (⟨"WaistcoatGreenModel", "handLine", "()V"⟩, 47) := ⟨⟨by decide +kernel, by decide +kernel⟩, List.mem_of_getElem? (i := 1072) (by decide +kernel), List.mem_of_getElem? (i := 1342) (by decide +kernel), List.mem_of_getElem? (i := 1343) (by decide +kernel)⟩
theorem lw_p57 : lw_okq (⟨"WaistcoatGreenModel", "manHere", "()I"⟩, 47) := ⟨⟨by decide +kernel, by decide +kernel⟩, List.mem_of_getElem? (i := 1072) (by decide +kernel), List.mem_of_getElem? (i := 1346) (by decide +kernel), List.mem_of_getElem? (i := 1347) (by decide +kernel)⟩
theorem lw_p58 : lw_okq (⟨"WaistcoatGreenModel", "frostLine", "()V"⟩, 47) := ⟨⟨by decide +kernel, by decide +kernel⟩, List.mem_of_getElem? (i := 1072) (by decide +kernel), List.mem_of_getElem? (i := 1351) (by decide +kernel), List.mem_of_getElem? (i := 1352) (by decide +kernel)⟩
theorem lw_p59 : lw_okq (⟨"WaistcoatGreenModel", "ends", "()V"⟩, 47) := ⟨⟨by decide +kernel, by decide +kernel⟩, List.mem_of_getElem? (i := 1072) (by decide +kernel), List.mem_of_getElem? (i := 1356) (by decide +kernel), List.mem_of_getElem? (i := 1357) (by decide +kernel)⟩
theorem lw_p60 : lw_okq (⟨"WaistcoatGreenModel", "isOver", "()V"⟩, 47) := ⟨⟨by decide +kernel, by decide +kernel⟩, List.mem_of_getElem? (i := 1072) (by decide +kernel), List.mem_of_getElem? (i := 1360) (by decide +kernel), List.mem_of_getElem? (i := 1361) (by decide +kernel)⟩
theorem lw_p61 : lw_okq (⟨"WaistcoatGreenModel", "copyGreen", "(II)V"⟩, 47) := ⟨⟨by decide +kernel, by decide +kernel⟩, List.mem_of_getElem? (i := 1072) (by decide +kernel), List.mem_of_getElem? (i := 1364) (by decide +kernel), List.mem_of_getElem? (i := 1365) (by decide +kernel)⟩
theorem lw_p62 : lw_okq (⟨"WaistcoatGreenModel", "isMan", "(J)Z"⟩, 47) := ⟨⟨by decide +kernel, by decide +kernel⟩, List.mem_of_getElem? (i := 1072) (by decide +kernel), List.mem_of_getElem? (i := 1375) (by decide +kernel), List.mem_of_getElem? (i := 1376) (by decide +kernel)⟩
theorem lw_p63 : lw_okq (⟨"WaistcoatGreenModel", "folk", "()I"⟩, 47) := ⟨⟨by decide +kernel, by decide +kernel⟩, List.mem_of_getElem? (i := 1072) (by decide +kernel), List.mem_of_getElem? (i := 1379) (by decide +kernel), List.mem_of_getElem? (i := 1380) (by decide +kernel)⟩
def lw_privs_4 : List (MethodName × Nat) := [(⟨"WaistcoatGreenModel", "is", "(J)Z"⟩, 47), (⟨"WaistcoatGreenModel", "fails", "(I)V"⟩, 47), (⟨"WaistcoatGreenModel", "number", "(JII)I"⟩, 47), (⟨"WaistcoatGreenModel", "number", "(II)I"⟩, 47), (⟨"WaistcoatGreenModel", "lineHere", "()V"⟩, 47), (⟨"WaistcoatGreenModel", "isRoom", "(ZII)Z"⟩, 47), (⟨"WaistcoatGreenModel", "hasRead", "(I)I"⟩, 47), (⟨"WaistcoatGreenModel", "villagerLine", "()V"⟩, 47), (⟨"WaistcoatGreenModel", "handLine", "()V"⟩, 47), (⟨"WaistcoatGreenModel", "manHere", "()I"⟩, 47), (⟨"WaistcoatGreenModel", "frostLine", "()V"⟩, 47), (⟨"WaistcoatGreenModel", "ends", "()V"⟩, 47), (⟨"WaistcoatGreenModel", "isOver", "()V"⟩, 47), (⟨"WaistcoatGreenModel", "copyGreen", "(II)V"⟩, 47), (⟨"WaistcoatGreenModel", "isMan", "(J)Z"⟩, 47), (⟨"WaistcoatGreenModel", "folk", "()I"⟩, 47)]
theorem lw_r4 : ∀ q ∈ lw_privs_4, lw_okq q := List.forall_mem_cons.mpr ⟨lw_p48, List.forall_mem_cons.mpr ⟨lw_p49, List.forall_mem_cons.mpr ⟨lw_p50, List.forall_mem_cons.mpr ⟨lw_p51, List.forall_mem_cons.mpr ⟨lw_p52, List.forall_mem_cons.mpr ⟨lw_p53, List.forall_mem_cons.mpr ⟨lw_p54, List.forall_mem_cons.mpr ⟨lw_p55, List.forall_mem_cons.mpr ⟨lw_p56, List.forall_mem_cons.mpr ⟨lw_p57, List.forall_mem_cons.mpr ⟨lw_p58, List.forall_mem_cons.mpr ⟨lw_p59, List.forall_mem_cons.mpr ⟨lw_p60, List.forall_mem_cons.mpr ⟨lw_p61, List.forall_mem_cons.mpr ⟨lw_p62, List.forall_mem_cons.mpr ⟨lw_p63, fun _ h => absurd h List.not_mem_nil⟩⟩⟩⟩⟩⟩⟩⟩⟩⟩⟩⟩⟩⟩⟩⟩
theorem lw_p64 : lw_okq (⟨"WaistcoatGreenModel", "lays", "()V"⟩, 47) := ⟨⟨by decide +kernel, by decide +kernel⟩, List.mem_of_getElem? (i := 1072) (by decide +kernel), List.mem_of_getElem? (i := 1390) (by decide +kernel), List.mem_of_getElem? (i := 1391) (by decide +kernel)⟩
theorem lw_p65 : lw_okq (⟨"WaistcoatGreenModel", "joins", "(II)V"⟩, 47) := ⟨⟨by decide +kernel, by decide +kernel⟩, List.mem_of_getElem? (i := 1072) (by decide +kernel), List.mem_of_getElem? (i := 1394) (by decide +kernel), List.mem_of_getElem? (i := 1395) (by decide +kernel)⟩
theorem lw_p66 : lw_okq (⟨"WaistcoatGreenModel", "reachOf", "(I)I"⟩, 47) := ⟨⟨by decide +kernel, by decide +kernel⟩, List.mem_of_getElem? (i := 1072) (by decide +kernel), List.mem_of_getElem? (i := 1409) (by decide +kernel), List.mem_of_getElem? (i := 1410) (by decide +kernel)⟩
theorem lw_p67 : lw_okq (⟨"WaistcoatGreenModel", "isGreen", "()Z"⟩, 47) := ⟨⟨by decide +kernel, by decide +kernel⟩, List.mem_of_getElem? (i := 1072) (by decide +kernel), List.mem_of_getElem? (i := 1417) (by decide +kernel), List.mem_of_getElem? (i := 1418) (by decide +kernel)⟩
theorem lw_p68 : lw_okq (⟨"WaistcoatGreenModel", "coverOf", "()I"⟩, 47) := ⟨⟨by decide +kernel, by decide +kernel⟩, List.mem_of_getElem? (i := 1072) (by decide +kernel), List.mem_of_getElem? (i := 1421) (by decide +kernel), List.mem_of_getElem? (i := 1422) (by decide +kernel)⟩
theorem lw_p69 : lw_okq (⟨"WaistcoatGreenModel", "isMorning", "(J)Z"⟩, 47) := ⟨⟨by decide +kernel, by decide +kernel⟩, List.mem_of_getElem? (i := 1072) (by decide +kernel), List.mem_of_getElem? (i := 1436) (by decide +kernel), List.mem_of_getElem? (i := 1437) (by decide +kernel)⟩
theorem lw_p70 : lw_okq (⟨"WaistcoatGreenModel", "mornings", "()I"⟩, 47) := ⟨⟨by decide +kernel, by decide +kernel⟩, List.mem_of_getElem? (i := 1072) (by decide +kernel), List.mem_of_getElem? (i := 1440) (by decide +kernel), List.mem_of_getElem? (i := 1441) (by decide +kernel)⟩
theorem lw_p71 : lw_okq (⟨"WaistcoatGreenModel", "laysNow", "()V"⟩, 47) := ⟨⟨by decide +kernel, by decide +kernel⟩, List.mem_of_getElem? (i := 1072) (by decide +kernel), List.mem_of_getElem? (i := 1444) (by decide +kernel), List.mem_of_getElem? (i := 1445) (by decide +kernel)⟩
theorem lw_p72 : lw_okq (⟨"WaistcoatGreenModel", "runs", "()V"⟩, 47) := ⟨⟨by decide +kernel, by decide +kernel⟩, List.mem_of_getElem? (i := 1072) (by decide +kernel), List.mem_of_getElem? (i := 1448) (by decide +kernel), List.mem_of_getElem? (i := 1449) (by decide +kernel)⟩
theorem lw_p73 : lw_okq (⟨"WaistcoatGreenModel", "sung", "(III)I"⟩, 47) := ⟨⟨by decide +kernel, by decide +kernel⟩, List.mem_of_getElem? (i := 1072) (by decide +kernel), List.mem_of_getElem? (i := 1452) (by decide +kernel), List.mem_of_getElem? (i := 1453) (by decide +kernel)⟩
theorem lw_p74 : lw_okq (⟨"WaistcoatGreenModel", "givenAt", "(I)I"⟩, 47) := ⟨⟨by decide +kernel, by decide +kernel⟩, List.mem_of_getElem? (i := 1072) (by decide +kernel), List.mem_of_getElem? (i := 1459) (by decide +kernel), List.mem_of_getElem? (i := 1460) (by decide +kernel)⟩
theorem lw_p75 : lw_okq (⟨"WaistcoatGreenModel", "passOf", "(II)I"⟩, 47) := ⟨⟨by decide +kernel, by decide +kernel⟩, List.mem_of_getElem? (i := 1072) (by decide +kernel), List.mem_of_getElem? (i := 1463) (by decide +kernel), List.mem_of_getElem? (i := 1464) (by decide +kernel)⟩
theorem lw_p76 : lw_okq (⟨"WaistcoatGreenModel", "isTaking", "(II)Z"⟩, 47) := ⟨⟨by decide +kernel, by decide +kernel⟩, List.mem_of_getElem? (i := 1072) (by decide +kernel), List.mem_of_getElem? (i := 1467) (by decide +kernel), List.mem_of_getElem? (i := 1468) (by decide +kernel)⟩
theorem lw_p77 : lw_okq (⟨"WaistcoatGreenModel", "coldAt", "(II)I"⟩, 47) := ⟨⟨by decide +kernel, by decide +kernel⟩, List.mem_of_getElem? (i := 1072) (by decide +kernel), List.mem_of_getElem? (i := 1471) (by decide +kernel), List.mem_of_getElem? (i := 1472) (by decide +kernel)⟩
theorem lw_p78 : lw_okq (⟨"WaistcoatGreenModel", "nextCold", "(IIIZ)I"⟩, 47) := ⟨⟨by decide +kernel, by decide +kernel⟩, List.mem_of_getElem? (i := 1072) (by decide +kernel), List.mem_of_getElem? (i := 1475) (by decide +kernel), List.mem_of_getElem? (i := 1476) (by decide +kernel)⟩
theorem lw_p79 : lw_okq (⟨"WaistcoatGreenModel", "frostAt", "(I)I"⟩, 47) := ⟨⟨by decide +kernel, by decide +kernel⟩, List.mem_of_getElem? (i := 1072) (by decide +kernel), List.mem_of_getElem? (i := 1479) (by decide +kernel), List.mem_of_getElem? (i := 1480) (by decide +kernel)⟩
def lw_privs_5 : List (MethodName × Nat) := [(⟨"WaistcoatGreenModel", "lays", "()V"⟩, 47), (⟨"WaistcoatGreenModel", "joins", "(II)V"⟩, 47), (⟨"WaistcoatGreenModel", "reachOf", "(I)I"⟩, 47), (⟨"WaistcoatGreenModel", "isGreen", "()Z"⟩, 47), (⟨"WaistcoatGreenModel", "coverOf", "()I"⟩, 47), (⟨"WaistcoatGreenModel", "isMorning", "(J)Z"⟩, 47), (⟨"WaistcoatGreenModel", "mornings", "()I"⟩, 47), (⟨"WaistcoatGreenModel", "laysNow", "()V"⟩, 47), (⟨"WaistcoatGreenModel", "runs", "()V"⟩, 47), (⟨"WaistcoatGreenModel", "sung", "(III)I"⟩, 47), (⟨"WaistcoatGreenModel", "givenAt", "(I)I"⟩, 47), (⟨"WaistcoatGreenModel", "passOf", "(II)I"⟩, 47), (⟨"WaistcoatGreenModel", "isTaking", "(II)Z"⟩, 47), (⟨"WaistcoatGreenModel", "coldAt", "(II)I"⟩, 47), (⟨"WaistcoatGreenModel", "nextCold", "(IIIZ)I"⟩, 47), (⟨"WaistcoatGreenModel", "frostAt", "(I)I"⟩, 47)]
theorem lw_r5 : ∀ q ∈ lw_privs_5, lw_okq q := List.forall_mem_cons.mpr ⟨lw_p64, List.forall_mem_cons.mpr ⟨lw_p65, List.forall_mem_cons.mpr ⟨lw_p66, List.forall_mem_cons.mpr ⟨lw_p67, List.forall_mem_cons.mpr ⟨lw_p68, List.forall_mem_cons.mpr ⟨lw_p69, List.forall_mem_cons.mpr ⟨lw_p70, List.forall_mem_cons.mpr ⟨lw_p71, List.forall_mem_cons.mpr ⟨lw_p72, List.forall_mem_cons.mpr ⟨lw_p73, List.forall_mem_cons.mpr ⟨lw_p74, List.forall_mem_cons.mpr ⟨lw_p75, List.forall_mem_cons.mpr ⟨lw_p76, List.forall_mem_cons.mpr ⟨lw_p77, List.forall_mem_cons.mpr ⟨lw_p78, List.forall_mem_cons.mpr ⟨lw_p79, fun _ h => absurd h List.not_mem_nil⟩⟩⟩⟩⟩⟩⟩⟩⟩⟩⟩⟩⟩⟩⟩⟩
theorem lw_p80 : lw_okq (⟨"WaistcoatGreenModel", "isThen", "(II)Z"⟩, 47) := ⟨⟨by decide +kernel, by decide +kernel⟩, List.mem_of_getElem? (i := 1072) (by decide +kernel), List.mem_of_getElem? (i := 1490) (by decide +kernel), List.mem_of_getElem? (i := 1491) (by decide +kernel)⟩
theorem lw_p81 : lw_okq (⟨"WaistcoatGreenModel", "oneAt", "(II)I"⟩, 47) := ⟨⟨by decide +kernel, by decide +kernel⟩, List.mem_of_getElem? (i := 1072) (by decide +kernel), List.mem_of_getElem? (i := 1502) (by decide +kernel), List.mem_of_getElem? (i := 1503) (by decide +kernel)⟩
theorem lw_p82 : lw_okq (⟨"WaistcoatGreenModel", "allAt", "(I)I"⟩, 47) := ⟨⟨by decide +kernel, by decide +kernel⟩, List.mem_of_getElem? (i := 1072) (by decide +kernel), List.mem_of_getElem? (i := 1514) (by decide +kernel), List.mem_of_getElem? (i := 1515) (by decide +kernel)⟩
theorem lw_p83 : lw_okq (⟨"WaistcoatGreenModel", "isAhead", "(I)Z"⟩, 47) := ⟨⟨by decide +kernel, by decide +kernel⟩, List.mem_of_getElem? (i := 1072) (by decide +kernel), List.mem_of_getElem? (i := 1522) (by decide +kernel), List.mem_of_getElem? (i := 1523) (by decide +kernel)⟩
theorem lw_p84 : lw_okq (⟨"WaistcoatGreenModel", "wornBy", "(I)I"⟩, 47) := ⟨⟨by decide +kernel, by decide +kernel⟩, List.mem_of_getElem? (i := 1072) (by decide +kernel), List.mem_of_getElem? (i := 1530) (by decide +kernel), List.mem_of_getElem? (i := 1531) (by decide +kernel)⟩
theorem lw_p85 : lw_okq (⟨"WaistcoatGreenModel", "getsAt", "(I)I"⟩, 47) := ⟨⟨by decide +kernel, by decide +kernel⟩, List.mem_of_getElem? (i := 1072) (by decide +kernel), List.mem_of_getElem? (i := 1538) (by decide +kernel), List.mem_of_getElem? (i := 1539) (by decide +kernel)⟩
theorem lw_p86 : lw_okq (⟨"WaistcoatGreenModel", "sufferOf", "(I)I"⟩, 47) := ⟨⟨by decide +kernel, by decide +kernel⟩, List.mem_of_getElem? (i := 1072) (by decide +kernel), List.mem_of_getElem? (i := 1566) (by decide +kernel), List.mem_of_getElem? (i := 1567) (by decide +kernel)⟩
theorem lw_p87 : lw_okq (⟨"WaistcoatGreenModel", "sumNow", "()I"⟩, 47) := ⟨⟨by decide +kernel, by decide +kernel⟩, List.mem_of_getElem? (i := 1072) (by decide +kernel), List.mem_of_getElem? (i := 1574) (by decide +kernel), List.mem_of_getElem? (i := 1575) (by decide +kernel)⟩
theorem lw_p88 : lw_okq (⟨"WaistcoatGreenModel", "bluest", "(I)I"⟩, 47) := ⟨⟨by decide +kernel, by decide +kernel⟩, List.mem_of_getElem? (i := 1072) (by decide +kernel), List.mem_of_getElem? (i := 1591) (by decide +kernel), List.mem_of_getElem? (i := 1592) (by decide +kernel)⟩
theorem lw_p89 : lw_okq (⟨"WaistcoatGreenModel", "laysLie", "(I)V"⟩, 47) := ⟨⟨by decide +kernel, by decide +kernel⟩, List.mem_of_getElem? (i := 1072) (by decide +kernel), List.mem_of_getElem? (i := 1640) (by decide +kernel), List.mem_of_getElem? (i := 1641) (by decide +kernel)⟩
theorem lw_p90 : lw_okq (⟨"WaistcoatGreenModel", "gainOf", "(I)I"⟩, 47) := ⟨⟨by decide +kernel, by decide +kernel⟩, List.mem_of_getElem? (i := 1072) (by decide +kernel), List.mem_of_getElem? (i := 1648) (by decide +kernel), List.mem_of_getElem? (i := 1649) (by decide +kernel)⟩
theorem lw_p91 : lw_okq (⟨"WaistcoatGreenModel", "isPlan", "(I)Z"⟩, 47) := ⟨⟨by decide +kernel, by decide +kernel⟩, List.mem_of_getElem? (i := 1072) (by decide +kernel), List.mem_of_getElem? (i := 1668) (by decide +kernel), List.mem_of_getElem? (i := 1669) (by decide +kernel)⟩
theorem lw_p92 : lw_okq (⟨"WaistcoatGreenModel", "laysPlan", "(I)V"⟩, 47) := ⟨⟨by decide +kernel, by decide +kernel⟩, List.mem_of_getElem? (i := 1072) (by decide +kernel), List.mem_of_getElem? (i := 1672) (by decide +kernel), List.mem_of_getElem? (i := 1673) (by decide +kernel)⟩
theorem lw_p93 : lw_okq (⟨"WaistcoatGreenModel", "planFrom", "(III)V"⟩, 47) := ⟨⟨by decide +kernel, by decide +kernel⟩, List.mem_of_getElem? (i := 1072) (by decide +kernel), List.mem_of_getElem? (i := 1676) (by decide +kernel), List.mem_of_getElem? (i := 1677) (by decide +kernel)⟩
theorem lw_p94 : lw_okq (⟨"WaistcoatGreenModel", "whyNot", "(IZ)I"⟩, 47) := ⟨⟨by decide +kernel, by decide +kernel⟩, List.mem_of_getElem? (i := 1072) (by decide +kernel), List.mem_of_getElem? (i := 1692) (by decide +kernel), List.mem_of_getElem? (i := 1693) (by decide +kernel)⟩
theorem lw_p95 : lw_okq (⟨"WaistcoatGreenModel", "laysSeen", "(II)V"⟩, 47) := ⟨⟨by decide +kernel, by decide +kernel⟩, List.mem_of_getElem? (i := 1072) (by decide +kernel), List.mem_of_getElem? (i := 1696) (by decide +kernel), List.mem_of_getElem? (i := 1697) (by decide +kernel)⟩
def lw_privs_6 : List (MethodName × Nat) := [(⟨"WaistcoatGreenModel", "isThen", "(II)Z"⟩, 47), (⟨"WaistcoatGreenModel", "oneAt", "(II)I"⟩, 47), (⟨"WaistcoatGreenModel", "allAt", "(I)I"⟩, 47), (⟨"WaistcoatGreenModel", "isAhead", "(I)Z"⟩, 47), (⟨"WaistcoatGreenModel", "wornBy", "(I)I"⟩, 47), (⟨"WaistcoatGreenModel", "getsAt", "(I)I"⟩, 47), (⟨"WaistcoatGreenModel", "sufferOf", "(I)I"⟩, 47), (⟨"WaistcoatGreenModel", "sumNow", "()I"⟩, 47), (⟨"WaistcoatGreenModel", "bluest", "(I)I"⟩, 47), (⟨"WaistcoatGreenModel", "laysLie", "(I)V"⟩, 47), (⟨"WaistcoatGreenModel", "gainOf", "(I)I"⟩, 47), (⟨"WaistcoatGreenModel", "isPlan", "(I)Z"⟩, 47), (⟨"WaistcoatGreenModel", "laysPlan", "(I)V"⟩, 47), (⟨"WaistcoatGreenModel", "planFrom", "(III)V"⟩, 47), (⟨"WaistcoatGreenModel", "whyNot", "(IZ)I"⟩, 47), (⟨"WaistcoatGreenModel", "laysSeen", "(II)V"⟩, 47)]
theorem lw_r6 : ∀ q ∈ lw_privs_6, lw_okq q := List.forall_mem_cons.mpr ⟨lw_p80, List.forall_mem_cons.mpr ⟨lw_p81, List.forall_mem_cons.mpr ⟨lw_p82, List.forall_mem_cons.mpr ⟨lw_p83, List.forall_mem_cons.mpr ⟨lw_p84, List.forall_mem_cons.mpr ⟨lw_p85, List.forall_mem_cons.mpr ⟨lw_p86, List.forall_mem_cons.mpr ⟨lw_p87, List.forall_mem_cons.mpr ⟨lw_p88, List.forall_mem_cons.mpr ⟨lw_p89, List.forall_mem_cons.mpr ⟨lw_p90, List.forall_mem_cons.mpr ⟨lw_p91, List.forall_mem_cons.mpr ⟨lw_p92, List.forall_mem_cons.mpr ⟨lw_p93, List.forall_mem_cons.mpr ⟨lw_p94, List.forall_mem_cons.mpr ⟨lw_p95, fun _ h => absurd h List.not_mem_nil⟩⟩⟩⟩⟩⟩⟩⟩⟩⟩⟩⟩⟩⟩⟩⟩
theorem lw_p96 : lw_okq (⟨"WaistcoatGreenModel", "isSo", "(I)Z"⟩, 47) := ⟨⟨by decide +kernel, by decide +kernel⟩, List.mem_of_getElem? (i := 1072) (by decide +kernel), List.mem_of_getElem? (i := 1700) (by decide +kernel), List.mem_of_getElem? (i := 1701) (by decide +kernel)⟩
theorem lw_p97 : lw_okq (⟨"WaistcoatGreenModel", "sumBy", "(I)I"⟩, 47) := ⟨⟨by decide +kernel, by decide +kernel⟩, List.mem_of_getElem? (i := 1072) (by decide +kernel), List.mem_of_getElem? (i := 1724) (by decide +kernel), List.mem_of_getElem? (i := 1725) (by decide +kernel)⟩
theorem lw_p98 : lw_okq (⟨"WaistcoatGreenModel", "worthOf", "(I)I"⟩, 47) := ⟨⟨by decide +kernel, by decide +kernel⟩, List.mem_of_getElem? (i := 1072) (by decide +kernel), List.mem_of_getElem? (i := 1740) (by decide +kernel), List.mem_of_getElem? (i := 1741) (by decide +kernel)⟩
theorem lw_p99 : lw_okq (⟨"WaistcoatGreenModel", "areTwo", "(II)Z"⟩, 47) := ⟨⟨by decide +kernel, by decide +kernel⟩, List.mem_of_getElem? (i := 1072) (by decide +kernel), List.mem_of_getElem? (i := 1762) (by decide +kernel), List.mem_of_getElem? (i := 1763) (by decide +kernel)⟩
theorem lw_p100 : lw_okq (⟨"WaistcoatGreenModel", "winsBy", "(IIIII)I"⟩, 47) := ⟨⟨by decide +kernel, by decide +kernel⟩, List.mem_of_getElem? (i := 1072) (by decide +kernel), List.mem_of_getElem? (i := 1766) (by decide +kernel), List.mem_of_getElem? (i := 1767) (by decide +kernel)⟩
theorem lw_p101 : lw_okq (⟨"WaistcoatGreenModel", "isSoon", "(I)Z"⟩, 47) := ⟨⟨by decide +kernel, by decide +kernel⟩, List.mem_of_getElem? (i := 1072) (by decide +kernel), List.mem_of_getElem? (i := 1778) (by decide +kernel), List.mem_of_getElem? (i := 1779) (by decide +kernel)⟩
theorem lw_p102 : lw_okq (⟨"WaistcoatGreenModel", "weightOf", "(II)J"⟩, 47) := ⟨⟨by decide +kernel, by decide +kernel⟩, List.mem_of_getElem? (i := 1072) (by decide +kernel), List.mem_of_getElem? (i := 1782) (by decide +kernel), List.mem_of_getElem? (i := 1783) (by decide +kernel)⟩
theorem lw_p103 : lw_okq (⟨"WaistcoatGreenModel", "draws", "(J)V"⟩, 47) := ⟨⟨by decide +kernel, by decide +kernel⟩, List.mem_of_getElem? (i := 1072) (by decide +kernel), List.mem_of_getElem? (i := 1803) (by decide +kernel), List.mem_of_getElem? (i := 1804) (by decide +kernel)⟩
theorem lw_p104 : lw_okq (⟨"WaistcoatGreenModel", "does", "(III)V"⟩, 47) := ⟨⟨by decide +kernel, by decide +kernel⟩, List.mem_of_getElem? (i := 1072) (by decide +kernel), List.mem_of_getElem? (i := 1820) (by decide +kernel), List.mem_of_getElem? (i := 1821) (by decide +kernel)⟩
def lw_privs_7 : List (MethodName × Nat) := [(⟨"WaistcoatGreenModel", "isSo", "(I)Z"⟩, 47), (⟨"WaistcoatGreenModel", "sumBy", "(I)I"⟩, 47), (⟨"WaistcoatGreenModel", "worthOf", "(I)I"⟩, 47), (⟨"WaistcoatGreenModel", "areTwo", "(II)Z"⟩, 47), (⟨"WaistcoatGreenModel", "winsBy", "(IIIII)I"⟩, 47), (⟨"WaistcoatGreenModel", "isSoon", "(I)Z"⟩, 47), (⟨"WaistcoatGreenModel", "weightOf", "(II)J"⟩, 47), (⟨"WaistcoatGreenModel", "draws", "(J)V"⟩, 47), (⟨"WaistcoatGreenModel", "does", "(III)V"⟩, 47)]
theorem lw_r7 : ∀ q ∈ lw_privs_7, lw_okq q := List.forall_mem_cons.mpr ⟨lw_p96, List.forall_mem_cons.mpr ⟨lw_p97, List.forall_mem_cons.mpr ⟨lw_p98, List.forall_mem_cons.mpr ⟨lw_p99, List.forall_mem_cons.mpr ⟨lw_p100, List.forall_mem_cons.mpr ⟨lw_p101, List.forall_mem_cons.mpr ⟨lw_p102, List.forall_mem_cons.mpr ⟨lw_p103, List.forall_mem_cons.mpr ⟨lw_p104, fun _ h => absurd h List.not_mem_nil⟩⟩⟩⟩⟩⟩⟩⟩⟩
def lw_privs : List (MethodName × Nat) := lw_privs_1 ++ (lw_privs_2 ++ (lw_privs_3 ++ (lw_privs_4 ++ (lw_privs_5 ++ (lw_privs_6 ++ (lw_privs_7))))))
def lw_tbl : List Cond := k2_sels lw_privs ++ tables_1
theorem lw_privs_ok : ∀ q ∈ lw_privs, lw_okq q := by
  show ∀ q ∈ lw_privs_1 ++ (lw_privs_2 ++ (lw_privs_3 ++ (lw_privs_4 ++ (lw_privs_5 ++ (lw_privs_6 ++ (lw_privs_7)))))), lw_okq q
  exact List.forall_mem_append.mpr ⟨lw_r1, List.forall_mem_append.mpr ⟨lw_r2, List.forall_mem_append.mpr ⟨lw_r3, List.forall_mem_append.mpr ⟨lw_r4, List.forall_mem_append.mpr ⟨lw_r5, List.forall_mem_append.mpr ⟨lw_r6, lw_r7⟩⟩⟩⟩⟩⟩
end
section
def RX0 : String := "WaistcoatGreen$Green"
def TX0 : u_T := fun k => match k with
  | 0 => ("WaistcoatGreen$Green", "lines", "I", false)
  | 1 => ("WaistcoatGreen$Green", "mornings", "I", false)
  | 2 => ("WaistcoatGreen$Green", "law", "I", false)
  | 3 => ("WaistcoatGreen$Green", "odds", "I", false)
  | 4 => ("WaistcoatGreen$Green", "warm", "I", false)
  | 5 => ("WaistcoatGreen$Green", "chill", "I", false)
  | 6 => ("WaistcoatGreen$Green", "villagers", "I", false)
  | 7 => ("WaistcoatGreen$Green", "hands", "I", false)
  | 8 => ("WaistcoatGreen$Green", "frosts", "I", false)
  | 9 => ("WaistcoatGreen$Green", "wearer", "I", false)
  | 10 => ("WaistcoatGreen$Green", "acts", "I", false)
  | 11 => ("WaistcoatGreen$Green", "told", "[I", true)
  | 12 => ("WaistcoatGreen$Green", "shy", "[I", true)
  | 13 => ("WaistcoatGreen$Green", "joined", "[I", true)
  | 14 => ("WaistcoatGreen$Green", "frostOn", "[I", true)
  | 15 => ("WaistcoatGreen$Green", "actKind", "[I", true)
  | 16 => ("WaistcoatGreen$Green", "actVillager", "[I", true)
  | _ => ("WaistcoatGreen$Green", "actMorning", "[I", true)
def tyX0 : Nat → FieldType := fun k => match k with
  | 0 => .int
  | 1 => .int
  | 2 => .int
  | 3 => .int
  | 4 => .int
  | 5 => .int
  | 6 => .int
  | 7 => .int
  | 8 => .int
  | 9 => .int
  | 10 => .int
  | 11 => .array .int
  | 12 => .array .int
  | 13 => .array .int
  | 14 => .array .int
  | 15 => .array .int
  | 16 => .array .int
  | _ => .array .int
abbrev wsX00 : List Cond := u_ws RX0 TX0 18
theorem nmX0 : ∀ a, a < 18 → ∀ b, b < 18 → a ≠ b → (TX0 a).2.1 ≠ (TX0 b).2.1 := by decide +kernel
theorem tyX0_ok : ∀ k, k < 18 → parseFieldDescriptor (TX0 k).2.2.1 = some (tyX0 k) := by decide +kernel
abbrev cX0_init : ByteArray := prog_2_method_1_code
def yX0_init : MethodName := ⟨RX0, "<init>", "()V"⟩
abbrev cX0_isTold : ByteArray := prog_2_method_2_code
def yX0_isTold : MethodName := ⟨RX0, "isTold", "()Z"⟩
abbrev cX0_hasVillager : ByteArray := prog_2_method_3_code
def yX0_hasVillager : MethodName := ⟨RX0, "hasVillager", "(I)Z"⟩
abbrev cX0_hasMorning : ByteArray := prog_2_method_4_code
def yX0_hasMorning : MethodName := ⟨RX0, "hasMorning", "(I)Z"⟩
abbrev cX0_hasMorningBehind : ByteArray := prog_2_method_5_code
def yX0_hasMorningBehind : MethodName := ⟨RX0, "hasMorningBehind", "(I)Z"⟩
abbrev cX0_everybody : ByteArray := prog_2_method_6_code
def yX0_everybody : MethodName := ⟨RX0, "everybody", "()I"⟩
abbrev cX0_areJoined : ByteArray := prog_2_method_7_code
def yX0_areJoined : MethodName := ⟨RX0, "areJoined", "(II)Z"⟩
abbrev cX0_chillOn : ByteArray := prog_2_method_8_code
def yX0_chillOn : MethodName := ⟨RX0, "chillOn", "(I)I"⟩
abbrev cX0_addVillager : ByteArray := prog_2_method_9_code
def yX0_addVillager : MethodName := ⟨RX0, "addVillager", "(II)V"⟩
abbrev cX0_addHand : ByteArray := prog_2_method_10_code
def yX0_addHand : MethodName := ⟨RX0, "addHand", "(II)V"⟩
abbrev cX0_addFrost : ByteArray := prog_2_method_11_code
def yX0_addFrost : MethodName := ⟨RX0, "addFrost", "(II)V"⟩
abbrev cX0_act : ByteArray := prog_2_method_12_code
def yX0_act : MethodName := ⟨RX0, "act", "(III)V"⟩
abbrev cX0_clear : ByteArray := prog_2_method_13_code
def yX0_clear : MethodName := ⟨RX0, "clear", "()V"⟩
abbrev cX0_copy : ByteArray := prog_2_method_14_code
def yX0_copy : MethodName := ⟨RX0, "copy", "(LWaistcoatGreen$Green;)V"⟩
def RX1 : String := "WaistcoatGreen$Guess"
def TX1 : u_T := fun k => match k with
  | 0 => ("WaistcoatGreen$Guess", "tally", "[I", true)
  | 1 => ("WaistcoatGreen$Guess", "count", "I", false)
  | 2 => ("WaistcoatGreen$Guess", "least", "I", false)
  | _ => ("WaistcoatGreen$Guess", "greatest", "I", false)
def tyX1 : Nat → FieldType := fun k => match k with
  | 0 => .array .int
  | 1 => .int
  | 2 => .int
  | _ => .int
abbrev wsX10 : List Cond := u_ws RX1 TX1 4
theorem nmX1 : ∀ a, a < 4 → ∀ b, b < 4 → a ≠ b → (TX1 a).2.1 ≠ (TX1 b).2.1 := by decide +kernel
theorem tyX1_ok : ∀ k, k < 4 → parseFieldDescriptor (TX1 k).2.2.1 = some (tyX1 k) := by decide +kernel
abbrev cX1_init : ByteArray := prog_3_method_1_code
def yX1_init : MethodName := ⟨RX1, "<init>", "()V"⟩
abbrev cX1_clear : ByteArray := prog_3_method_2_code
def yX1_clear : MethodName := ⟨RX1, "clear", "()V"⟩
abbrev cX1_at : ByteArray := prog_3_method_3_code
def yX1_at : MethodName := ⟨RX1, "at", "(II)I"⟩
abbrev cX1_add : ByteArray := prog_3_method_4_code
def yX1_add : MethodName := ⟨RX1, "add", "(ILWaistcoatGreen$Winter;I)V"⟩
abbrev cX1_bestMorning : ByteArray := prog_3_method_5_code
def yX1_bestMorning : MethodName := ⟨RX1, "bestMorning", "(I)I"⟩
abbrev cX1_leftBy : ByteArray := prog_3_method_6_code
def yX1_leftBy : MethodName := ⟨RX1, "leftBy", "(I)I"⟩
def RX2 : String := "WaistcoatGreen$Planner"
def TX2 : u_T := fun k => match k with
  | 0 => ("WaistcoatGreen$Planner", "winter", "LWaistcoatGreen$Winter;", true)
  | 1 => ("WaistcoatGreen$Planner", "row", "[I", true)
  | 2 => ("WaistcoatGreen$Planner", "last", "I", false)
  | 3 => ("WaistcoatGreen$Planner", "least", "I", false)
  | _ => ("WaistcoatGreen$Planner", "rows", "I", false)
def tyX2 : Nat → FieldType := fun k => match k with
  | 0 => .object "WaistcoatGreen$Winter"
  | 1 => .array .int
  | 2 => .int
  | 3 => .int
  | _ => .int
abbrev wsX20 : List Cond := u_ws RX2 TX2 5
theorem nmX2 : ∀ a, a < 5 → ∀ b, b < 5 → a ≠ b → (TX2 a).2.1 ≠ (TX2 b).2.1 := by decide +kernel
theorem tyX2_ok : ∀ k, k < 5 → parseFieldDescriptor (TX2 k).2.2.1 = some (tyX2 k) := by decide +kernel
abbrev cX2_init : ByteArray := prog_4_method_1_code
def yX2_init : MethodName := ⟨RX2, "<init>", "(LWaistcoatGreen$Winter;)V"⟩
abbrev cX2_search : ByteArray := prog_4_method_2_code
def yX2_search : MethodName := ⟨RX2, "search", "(I)V"⟩
abbrev cX2_goOn : ByteArray := prog_4_method_3_code
def yX2_goOn : MethodName := ⟨RX2, "goOn", "(LWaistcoatGreen$Planner;II)V"⟩
abbrev cX2_canGo : ByteArray := prog_4_method_4_code
def yX2_canGo : MethodName := ⟨RX2, "canGo", "(II)Z"⟩
abbrev cX2_weigh : ByteArray := prog_4_method_5_code
def yX2_weigh : MethodName := ⟨RX2, "weigh", "(I)V"⟩
def RX3 : String := "WaistcoatGreen$Reader"
def TX3 : u_T := fun k => match k with
  | 0 => ("WaistcoatGreen$Reader", "tape", "[B", true)
  | 1 => ("WaistcoatGreen$Reader", "length", "I", false)
  | 2 => ("WaistcoatGreen$Reader", "fault", "I", false)
  | 3 => ("WaistcoatGreen$Reader", "faultPlace", "I", false)
  | 4 => ("WaistcoatGreen$Reader", "kind", "I", false)
  | 5 => ("WaistcoatGreen$Reader", "place", "I", false)
  | 6 => ("WaistcoatGreen$Reader", "behind", "I", false)
  | _ => ("WaistcoatGreen$Reader", "value", "I", false)
def tyX3 : Nat → FieldType := fun k => match k with
  | 0 => .array .byte
  | 1 => .int
  | 2 => .int
  | 3 => .int
  | 4 => .int
  | 5 => .int
  | 6 => .int
  | _ => .int
abbrev wsX30 : List Cond := u_ws RX3 TX3 8
theorem nmX3 : ∀ a, a < 8 → ∀ b, b < 8 → a ≠ b → (TX3 a).2.1 ≠ (TX3 b).2.1 := by decide +kernel
theorem tyX3_ok : ∀ k, k < 8 → parseFieldDescriptor (TX3 k).2.2.1 = some (tyX3 k) := by decide +kernel
abbrev cX3_init : ByteArray := prog_5_method_1_code
def yX3_init : MethodName := ⟨RX3, "<init>", "()V"⟩
abbrev cX3_put : ByteArray := prog_5_method_2_code
def yX3_put : MethodName := ⟨RX3, "put", "(I)V"⟩
abbrev cX3_read : ByteArray := prog_5_method_3_code
def yX3_read : MethodName := ⟨RX3, "read", "(LWaistcoatGreen$Green;)Z"⟩
abbrev cX3_closeLine : ByteArray := prog_5_method_4_code
def yX3_closeLine : MethodName := ⟨RX3, "closeLine", "(LWaistcoatGreen$Green;)V"⟩
abbrev cX3_readGreen : ByteArray := prog_5_method_5_code
def yX3_readGreen : MethodName := ⟨RX3, "readGreen", "(LWaistcoatGreen$Green;)V"⟩
abbrev cX3_readVillager : ByteArray := prog_5_method_6_code
def yX3_readVillager : MethodName := ⟨RX3, "readVillager", "(LWaistcoatGreen$Green;)V"⟩
abbrev cX3_readWears : ByteArray := prog_5_method_7_code
def yX3_readWears : MethodName := ⟨RX3, "readWears", "(LWaistcoatGreen$Green;)V"⟩
abbrev cX3_readHand : ByteArray := prog_5_method_8_code
def yX3_readHand : MethodName := ⟨RX3, "readHand", "(LWaistcoatGreen$Green;)V"⟩
abbrev cX3_readFrost : ByteArray := prog_5_method_9_code
def yX3_readFrost : MethodName := ⟨RX3, "readFrost", "(LWaistcoatGreen$Green;)V"⟩
abbrev cX3_readNamed : ByteArray := prog_5_method_10_code
def yX3_readNamed : MethodName := ⟨RX3, "readNamed", "(Ljava/lang/String;II)I"⟩
abbrev cX3_readNumber : ByteArray := prog_5_method_11_code
def yX3_readNumber : MethodName := ⟨RX3, "readNumber", "(III)I"⟩
abbrev cX3_pass : ByteArray := prog_5_method_12_code
def yX3_pass : MethodName := ⟨RX3, "pass", "(Ljava/lang/String;)V"⟩
abbrev cX3_blame : ByteArray := prog_5_method_13_code
def yX3_blame : MethodName := ⟨RX3, "blame", "(I)V"⟩
abbrev cX3_isAt : ByteArray := prog_5_method_14_code
def yX3_isAt : MethodName := ⟨RX3, "isAt", "(Ljava/lang/String;)Z"⟩
abbrev cX3_next : ByteArray := prog_5_method_15_code
def yX3_next : MethodName := ⟨RX3, "next", "()V"⟩
abbrev cX3_kindAt : ByteArray := prog_5_method_16_code
def yX3_kindAt : MethodName := ⟨RX3, "kindAt", "(I)I"⟩
def RX4 : String := "WaistcoatGreen$Slot"
def TX4 : u_T := fun k => match k with
  | 0 => ("WaistcoatGreen$Slot", "numbers", "[J", true)
  | 1 => ("WaistcoatGreen$Slot", "hasRow", "Z", false)
  | 2 => ("WaistcoatGreen$Slot", "width", "I", false)
  | _ => ("WaistcoatGreen$Slot", "size", "I", false)
def tyX4 : Nat → FieldType := fun k => match k with
  | 0 => .array .long
  | 1 => .boolean
  | 2 => .int
  | _ => .int
abbrev wsX40 : List Cond := u_ws RX4 TX4 4
theorem nmX4 : ∀ a, a < 4 → ∀ b, b < 4 → a ≠ b → (TX4 a).2.1 ≠ (TX4 b).2.1 := by decide +kernel
theorem tyX4_ok : ∀ k, k < 4 → parseFieldDescriptor (TX4 k).2.2.1 = some (tyX4 k) := by decide +kernel
abbrev cX4_init : ByteArray := prog_6_method_1_code
def yX4_init : MethodName := ⟨RX4, "<init>", "()V"⟩
abbrev cX4_renew : ByteArray := prog_6_method_2_code
def yX4_renew : MethodName := ⟨RX4, "renew", "(II)V"⟩
abbrev cX4_cut : ByteArray := prog_6_method_3_code
def yX4_cut : MethodName := ⟨RX4, "cut", "(J)J"⟩
abbrev cX4_holds : ByteArray := prog_6_method_4_code
def yX4_holds : MethodName := ⟨RX4, "holds", "(II)Z"⟩
abbrev cX4_canBeSeen : ByteArray := prog_6_method_5_code
def yX4_canBeSeen : MethodName := ⟨RX4, "canBeSeen", "(LWaistcoatGreen$Green;)Z"⟩
def RX5 : String := "WaistcoatGreen$Winter"
def TX5 : u_T := fun k => match k with
  | 0 => ("WaistcoatGreen$Winter", "green", "LWaistcoatGreen$Green;", true)
  | 1 => ("WaistcoatGreen$Winter", "law", "I", false)
  | 2 => ("WaistcoatGreen$Winter", "first", "I", false)
  | 3 => ("WaistcoatGreen$Winter", "hard", "I", false)
  | 4 => ("WaistcoatGreen$Winter", "told", "[I", true)
  | 5 => ("WaistcoatGreen$Winter", "shy", "[I", true)
  | 6 => ("WaistcoatGreen$Winter", "joined", "[I", true)
  | 7 => ("WaistcoatGreen$Winter", "given", "[I", true)
  | 8 => ("WaistcoatGreen$Winter", "songs", "[I", true)
  | 9 => ("WaistcoatGreen$Winter", "holder", "[I", true)
  | 10 => ("WaistcoatGreen$Winter", "passed", "[I", true)
  | _ => ("WaistcoatGreen$Winter", "cold", "[I", true)
def tyX5 : Nat → FieldType := fun k => match k with
  | 0 => .object "WaistcoatGreen$Green"
  | 1 => .int
  | 2 => .int
  | 3 => .int
  | 4 => .array .int
  | 5 => .array .int
  | 6 => .array .int
  | 7 => .array .int
  | 8 => .array .int
  | 9 => .array .int
  | 10 => .array .int
  | _ => .array .int
abbrev wsX50 : List Cond := u_ws RX5 TX5 12
theorem nmX5 : ∀ a, a < 12 → ∀ b, b < 12 → a ≠ b → (TX5 a).2.1 ≠ (TX5 b).2.1 := by decide +kernel
theorem tyX5_ok : ∀ k, k < 12 → parseFieldDescriptor (TX5 k).2.2.1 = some (tyX5 k) := by decide +kernel
abbrev cX5_init : ByteArray := prog_7_method_1_code
def yX5_init : MethodName := ⟨RX5, "<init>", "(LWaistcoatGreen$Green;)V"⟩
abbrev cX5_at : ByteArray := prog_7_method_2_code
def yX5_at : MethodName := ⟨RX5, "at", "(II)I"⟩
abbrev cX5_tell : ByteArray := prog_7_method_3_code
def yX5_tell : MethodName := ⟨RX5, "tell", "()V"⟩
abbrev cX5_leaveTo : ByteArray := prog_7_method_4_code
def yX5_leaveTo : MethodName := ⟨RX5, "leaveTo", "(I)V"⟩
abbrev cX5_giveTo : ByteArray := prog_7_method_5_code
def yX5_giveTo : MethodName := ⟨RX5, "giveTo", "(I)V"⟩
abbrev cX5_countSongs : ByteArray := prog_7_method_6_code
def yX5_countSongs : MethodName := ⟨RX5, "countSongs", "()V"⟩
abbrev cX5_play : ByteArray := prog_7_method_7_code
def yX5_play : MethodName := ⟨RX5, "play", "(I)V"⟩
abbrev cX5_begin : ByteArray := prog_7_method_8_code
def yX5_begin : MethodName := ⟨RX5, "begin", "()V"⟩
abbrev cX5_freeze : ByteArray := prog_7_method_9_code
def yX5_freeze : MethodName := ⟨RX5, "freeze", "(I)V"⟩
abbrev cX5_passedByLaw : ByteArray := prog_7_method_10_code
def yX5_passedByLaw : MethodName := ⟨RX5, "passedByLaw", "(I)I"⟩
abbrev cX5_isPreferred : ByteArray := prog_7_method_11_code
def yX5_isPreferred : MethodName := ⟨RX5, "isPreferred", "(III)Z"⟩
abbrev cX5_coldOf : ByteArray := prog_7_method_12_code
def yX5_coldOf : MethodName := ⟨RX5, "coldOf", "(II)I"⟩
abbrev cX5_coldOfAll : ByteArray := prog_7_method_13_code
def yX5_coldOfAll : MethodName := ⟨RX5, "coldOfAll", "(I)I"⟩
abbrev cX5_takers : ByteArray := prog_7_method_14_code
def yX5_takers : MethodName := ⟨RX5, "takers", "(I)I"⟩
abbrev cX5_colderThan : ByteArray := prog_7_method_15_code
def yX5_colderThan : MethodName := ⟨RX5, "colderThan", "(II)I"⟩
abbrev cX5_oneHandOn : ByteArray := prog_7_method_16_code
def yX5_oneHandOn : MethodName := ⟨RX5, "oneHandOn", "(I)I"⟩
abbrev cX5_reachedFrom : ByteArray := prog_7_method_17_code
def yX5_reachedFrom : MethodName := ⟨RX5, "reachedFrom", "(I)I"⟩
abbrev cX5_sufferedBy : ByteArray := prog_7_method_18_code
def yX5_sufferedBy : MethodName := ⟨RX5, "sufferedBy", "(I)I"⟩
abbrev cX5_sufferedByAll : ByteArray := prog_7_method_19_code
def yX5_sufferedByAll : MethodName := ⟨RX5, "sufferedByAll", "()I"⟩
abbrev cX5_isEverAsCold : ByteArray := prog_7_method_20_code
def yX5_isEverAsCold : MethodName := ⟨RX5, "isEverAsCold", "(II)Z"⟩
abbrev cX5_everHas : ByteArray := prog_7_method_21_code
def yX5_everHas : MethodName := ⟨RX5, "everHas", "(I)Z"⟩
abbrev cX5_isAsSeen : ByteArray := prog_7_method_22_code
def yX5_isAsSeen : MethodName := ⟨RX5, "isAsSeen", "(LWaistcoatGreen$Slot;)Z"⟩
def RX6 : String := "WaistcoatGreen"
def TX6 : u_T := fun k => match k with
  | 0 => ("WaistcoatGreen", "reader", "LWaistcoatGreen$Reader;", true)
  | 1 => ("WaistcoatGreen", "green", "LWaistcoatGreen$Green;", true)
  | 2 => ("WaistcoatGreen", "draft", "LWaistcoatGreen$Green;", true)
  | 3 => ("WaistcoatGreen", "now", "LWaistcoatGreen$Winter;", true)
  | 4 => ("WaistcoatGreen", "trial", "LWaistcoatGreen$Winter;", true)
  | 5 => ("WaistcoatGreen", "planner", "LWaistcoatGreen$Planner;", true)
  | 6 => ("WaistcoatGreen", "guess", "LWaistcoatGreen$Guess;", true)
  | 7 => ("WaistcoatGreen", "slots", "[LWaistcoatGreen$Slot;", true)
  | 8 => ("WaistcoatGreen", "images", "[LWaistcoatGreen$Green;", true)
  | 9 => ("WaistcoatGreen", "kept", "[Z", true)
  | _ => ("WaistcoatGreen", "worths", "[I", true)
def tyX6 : Nat → FieldType := fun k => match k with
  | 0 => .object "WaistcoatGreen$Reader"
  | 1 => .object "WaistcoatGreen$Green"
  | 2 => .object "WaistcoatGreen$Green"
  | 3 => .object "WaistcoatGreen$Winter"
  | 4 => .object "WaistcoatGreen$Winter"
  | 5 => .object "WaistcoatGreen$Planner"
  | 6 => .object "WaistcoatGreen$Guess"
  | 7 => .array (.object "WaistcoatGreen$Slot")
  | 8 => .array (.object "WaistcoatGreen$Green")
  | 9 => .array .boolean
  | _ => .array .int
abbrev wsX60 : List Cond := u_ws RX6 TX6 11
theorem nmX6 : ∀ a, a < 11 → ∀ b, b < 11 → a ≠ b → (TX6 a).2.1 ≠ (TX6 b).2.1 := by decide +kernel
theorem tyX6_ok : ∀ k, k < 11 → parseFieldDescriptor (TX6 k).2.2.1 = some (tyX6 k) := by decide +kernel
abbrev cX6_init : ByteArray := prog_1_method_1_code
def yX6_init : MethodName := ⟨RX6, "<init>", "()V"⟩
abbrev cX6_feed : ByteArray := prog_1_method_2_code
def yX6_feed : MethodName := ⟨RX6, "feed", "(IIIII)I"⟩
abbrev cX6_end : ByteArray := prog_1_method_3_code
def yX6_end : MethodName := ⟨RX6, "end", "(I)I"⟩
abbrev cX6_green : ByteArray := prog_1_method_4_code
def yX6_green : MethodName := ⟨RX6, "green", "()I"⟩
abbrev cX6_fault : ByteArray := prog_1_method_5_code
def yX6_fault : MethodName := ⟨RX6, "fault", "(I)I"⟩
abbrev cX6_villager : ByteArray := prog_1_method_6_code
def yX6_villager : MethodName := ⟨RX6, "villager", "(II)I"⟩
abbrev cX6_hands : ByteArray := prog_1_method_7_code
def yX6_hands : MethodName := ⟨RX6, "hands", "(I)I"⟩
abbrev cX6_far : ByteArray := prog_1_method_8_code
def yX6_far : MethodName := ⟨RX6, "far", "(II)I"⟩
abbrev cX6_reach : ByteArray := prog_1_method_9_code
def yX6_reach : MethodName := ⟨RX6, "reach", "(I)I"⟩
abbrev cX6_cover : ByteArray := prog_1_method_10_code
def yX6_cover : MethodName := ⟨RX6, "cover", "()I"⟩
abbrev cX6_covers : ByteArray := prog_1_method_11_code
def yX6_covers : MethodName := ⟨RX6, "covers", "()I"⟩
abbrev cX6_has : ByteArray := prog_1_method_12_code
def yX6_has : MethodName := ⟨RX6, "has", "(I)I"⟩
abbrev cX6_cold : ByteArray := prog_1_method_13_code
def yX6_cold : MethodName := ⟨RX6, "cold", "(II)I"⟩
abbrev cX6_takes : ByteArray := prog_1_method_14_code
def yX6_takes : MethodName := ⟨RX6, "takes", "(I)I"⟩
abbrev cX6_coldest : ByteArray := prog_1_method_15_code
def yX6_coldest : MethodName := ⟨RX6, "coldest", "(I)I"⟩
abbrev cX6_all : ByteArray := prog_1_method_16_code
def yX6_all : MethodName := ⟨RX6, "all", "(I)I"⟩
abbrev cX6_passes : ByteArray := prog_1_method_17_code
def yX6_passes : MethodName := ⟨RX6, "passes", "(I)I"⟩
abbrev cX6_worn : ByteArray := prog_1_method_18_code
def yX6_worn : MethodName := ⟨RX6, "worn", "(I)I"⟩
abbrev cX6_gets : ByteArray := prog_1_method_19_code
def yX6_gets : MethodName := ⟨RX6, "gets", "(I)I"⟩
abbrev cX6_keeps : ByteArray := prog_1_method_20_code
def yX6_keeps : MethodName := ⟨RX6, "keeps", "(I)I"⟩
abbrev cX6_pump : ByteArray := prog_1_method_21_code
def yX6_pump : MethodName := ⟨RX6, "pump", "()I"⟩
abbrev cX6_right : ByteArray := prog_1_method_22_code
def yX6_right : MethodName := ⟨RX6, "right", "()I"⟩
abbrev cX6_stops : ByteArray := prog_1_method_23_code
def yX6_stops : MethodName := ⟨RX6, "stops", "()I"⟩
abbrev cX6_round : ByteArray := prog_1_method_24_code
def yX6_round : MethodName := ⟨RX6, "round", "()I"⟩
abbrev cX6_suffers : ByteArray := prog_1_method_25_code
def yX6_suffers : MethodName := ⟨RX6, "suffers", "(I)I"⟩
abbrev cX6_sum : ByteArray := prog_1_method_26_code
def yX6_sum : MethodName := ⟨RX6, "sum", "()I"⟩
abbrev cX6_worst : ByteArray := prog_1_method_27_code
def yX6_worst : MethodName := ⟨RX6, "worst", "()I"⟩
abbrev cX6_freezes : ByteArray := prog_1_method_28_code
def yX6_freezes : MethodName := ⟨RX6, "freezes", "(II)I"⟩
abbrev cX6_blue : ByteArray := prog_1_method_29_code
def yX6_blue : MethodName := ⟨RX6, "blue", "()I"⟩
abbrev cX6_alike : ByteArray := prog_1_method_30_code
def yX6_alike : MethodName := ⟨RX6, "alike", "(I)I"⟩
abbrev cX6_colder : ByteArray := prog_1_method_31_code
def yX6_colder : MethodName := ⟨RX6, "colder", "(II)I"⟩
abbrev cX6_near : ByteArray := prog_1_method_32_code
def yX6_near : MethodName := ⟨RX6, "near", "(I)I"⟩
abbrev cX6_warmest : ByteArray := prog_1_method_33_code
def yX6_warmest : MethodName := ⟨RX6, "warmest", "(I)I"⟩
abbrev cX6_frost : ByteArray := prog_1_method_34_code
def yX6_frost : MethodName := ⟨RX6, "frost", "(I)I"⟩
abbrev cX6_jumps : ByteArray := prog_1_method_35_code
def yX6_jumps : MethodName := ⟨RX6, "jumps", "()I"⟩
abbrev cX6_longest : ByteArray := prog_1_method_36_code
def yX6_longest : MethodName := ⟨RX6, "longest", "()I"⟩
abbrev cX6_fair : ByteArray := prog_1_method_37_code
def yX6_fair : MethodName := ⟨RX6, "fair", "()I"⟩
abbrev cX6_rises : ByteArray := prog_1_method_38_code
def yX6_rises : MethodName := ⟨RX6, "rises", "(I)I"⟩
abbrev cX6_waits : ByteArray := prog_1_method_39_code
def yX6_waits : MethodName := ⟨RX6, "waits", "(I)I"⟩
abbrev cX6_returns : ByteArray := prog_1_method_40_code
def yX6_returns : MethodName := ⟨RX6, "returns", "(I)I"⟩
abbrev cX6_lies : ByteArray := prog_1_method_41_code
def yX6_lies : MethodName := ⟨RX6, "lies", "(I)I"⟩
abbrev cX6_gains : ByteArray := prog_1_method_42_code
def yX6_gains : MethodName := ⟨RX6, "gains", "(I)I"⟩
abbrev cX6_liars : ByteArray := prog_1_method_43_code
def yX6_liars : MethodName := ⟨RX6, "liars", "()I"⟩
abbrev cX6_start : ByteArray := prog_1_method_44_code
def yX6_start : MethodName := ⟨RX6, "start", "()I"⟩
abbrev cX6_join : ByteArray := prog_1_method_45_code
def yX6_join : MethodName := ⟨RX6, "join", "()I"⟩
abbrev cX6_plan : ByteArray := prog_1_method_46_code
def yX6_plan : MethodName := ⟨RX6, "plan", "(I)I"⟩
abbrev cX6_planned : ByteArray := prog_1_method_47_code
def yX6_planned : MethodName := ⟨RX6, "planned", "(II)I"⟩
abbrev cX6_plans : ByteArray := prog_1_method_48_code
def yX6_plans : MethodName := ⟨RX6, "plans", "(I)I"⟩
abbrev cX6_colds : ByteArray := prog_1_method_49_code
def yX6_colds : MethodName := ⟨RX6, "colds", "(II)I"⟩
abbrev cX6_low : ByteArray := prog_1_method_50_code
def yX6_low : MethodName := ⟨RX6, "low", "(II)I"⟩
abbrev cX6_high : ByteArray := prog_1_method_51_code
def yX6_high : MethodName := ⟨RX6, "high", "(II)I"⟩
abbrev cX6_ask : ByteArray := prog_1_method_52_code
def yX6_ask : MethodName := ⟨RX6, "ask", "(II)I"⟩
abbrev cX6_leaves : ByteArray := prog_1_method_53_code
def yX6_leaves : MethodName := ⟨RX6, "leaves", "(II)I"⟩
abbrev cX6_laws : ByteArray := prog_1_method_54_code
def yX6_laws : MethodName := ⟨RX6, "laws", "(I)I"⟩
abbrev cX6_by : ByteArray := prog_1_method_55_code
def yX6_by : MethodName := ⟨RX6, "by", "(I)I"⟩
abbrev cX6_law : ByteArray := prog_1_method_56_code
def yX6_law : MethodName := ⟨RX6, "law", "()I"⟩
abbrev cX6_worth : ByteArray := prog_1_method_57_code
def yX6_worth : MethodName := ⟨RX6, "worth", "(I)I"⟩
abbrev cX6_share : ByteArray := prog_1_method_58_code
def yX6_share : MethodName := ⟨RX6, "share", "(II)I"⟩
abbrev cX6_rests : ByteArray := prog_1_method_59_code
def yX6_rests : MethodName := ⟨RX6, "rests", "(II)I"⟩
abbrev cX6_wins : ByteArray := prog_1_method_60_code
def yX6_wins : MethodName := ⟨RX6, "wins", "(IIII)I"⟩
abbrev cX6_chance : ByteArray := prog_1_method_61_code
def yX6_chance : MethodName := ⟨RX6, "chance", "(III)I"⟩
abbrev cX6_mean : ByteArray := prog_1_method_62_code
def yX6_mean : MethodName := ⟨RX6, "mean", "(II)J"⟩
abbrev cX6_gives : ByteArray := prog_1_method_63_code
def yX6_gives : MethodName := ⟨RX6, "gives", "(II)I"⟩
abbrev cX6_sings : ByteArray := prog_1_method_64_code
def yX6_sings : MethodName := ⟨RX6, "sings", "(II)I"⟩
abbrev cX6_undo : ByteArray := prog_1_method_65_code
def yX6_undo : MethodName := ⟨RX6, "undo", "()I"⟩
abbrev cX6_anew : ByteArray := prog_1_method_66_code
def yX6_anew : MethodName := ⟨RX6, "anew", "()I"⟩
abbrev cX6_drawn : ByteArray := prog_1_method_67_code
def yX6_drawn : MethodName := ⟨RX6, "drawn", "(II)I"⟩
abbrev cX6_luck : ByteArray := prog_1_method_68_code
def yX6_luck : MethodName := ⟨RX6, "luck", "(III)I"⟩
abbrev cX6_rate : ByteArray := prog_1_method_69_code
def yX6_rate : MethodName := ⟨RX6, "rate", "(II)I"⟩
abbrev cX6_count : ByteArray := prog_1_method_70_code
def yX6_count : MethodName := ⟨RX6, "count", "(I)I"⟩
abbrev cX6_image : ByteArray := prog_1_method_71_code
def yX6_image : MethodName := ⟨RX6, "image", "(I)I"⟩
abbrev cX6_back : ByteArray := prog_1_method_72_code
def yX6_back : MethodName := ⟨RX6, "back", "(I)I"⟩
abbrev cX6_row : ByteArray := prog_1_method_73_code
def yX6_row : MethodName := ⟨RX6, "row", "(III)I"⟩
abbrev cX6_write : ByteArray := prog_1_method_74_code
def yX6_write : MethodName := ⟨RX6, "write", "(IIJ)I"⟩
abbrev cX6_paste : ByteArray := prog_1_method_75_code
def yX6_paste : MethodName := ⟨RX6, "paste", "(IIIII)I"⟩
abbrev cX6_settle : ByteArray := prog_1_method_76_code
def yX6_settle : MethodName := ⟨RX6, "settle", "()V"⟩
abbrev cX6_leastCover : ByteArray := prog_1_method_77_code
def yX6_leastCover : MethodName := ⟨RX6, "leastCover", "()I"⟩
abbrev cX6_morningsWith : ByteArray := prog_1_method_78_code
def yX6_morningsWith : MethodName := ⟨RX6, "morningsWith", "(I)I"⟩
abbrev cX6_firstWith : ByteArray := prog_1_method_79_code
def yX6_firstWith : MethodName := ⟨RX6, "firstWith", "(I)I"⟩
abbrev cX6_bestLie : ByteArray := prog_1_method_80_code
def yX6_bestLie : MethodName := ⟨RX6, "bestLie", "(I)I"⟩
abbrev cX6_gainOf : ByteArray := prog_1_method_81_code
def yX6_gainOf : MethodName := ⟨RX6, "gainOf", "(I)I"⟩
abbrev cX6_sumTried : ByteArray := prog_1_method_82_code
def yX6_sumTried : MethodName := ⟨RX6, "sumTried", "()I"⟩
abbrev cX6_sumJoined : ByteArray := prog_1_method_83_code
def yX6_sumJoined : MethodName := ⟨RX6, "sumJoined", "(II)I"⟩
abbrev cX6_sumByLaw : ByteArray := prog_1_method_84_code
def yX6_sumByLaw : MethodName := ⟨RX6, "sumByLaw", "(I)I"⟩
abbrev cX6_canPlan : ByteArray := prog_1_method_85_code
def yX6_canPlan : MethodName := ⟨RX6, "canPlan", "(I)Z"⟩
abbrev cX6_canChance : ByteArray := prog_1_method_86_code
def yX6_canChance : MethodName := ⟨RX6, "canChance", "(I)Z"⟩
abbrev cX6_areTwo : ByteArray := prog_1_method_87_code
def yX6_areTwo : MethodName := ⟨RX6, "areTwo", "(II)Z"⟩
abbrev cX6_isSlot : ByteArray := prog_1_method_88_code
def yX6_isSlot : MethodName := ⟨RX6, "isSlot", "(I)Z"⟩
abbrev cX6_isSeed : ByteArray := prog_1_method_89_code
def yX6_isSeed : MethodName := ⟨RX6, "isSeed", "(I)Z"⟩
abbrev cX6_slotsWithRow : ByteArray := prog_1_method_90_code
def yX6_slotsWithRow : MethodName := ⟨RX6, "slotsWithRow", "()I"⟩
abbrev cX6_whyNotSeen : ByteArray := prog_1_method_91_code
def yX6_whyNotSeen : MethodName := ⟨RX6, "whyNotSeen", "(I)I"⟩
abbrev cX6_guessCold : ByteArray := prog_1_method_92_code
def yX6_guessCold : MethodName := ⟨RX6, "guessCold", "(II)I"⟩
abbrev cX6_worthOf : ByteArray := prog_1_method_93_code
def yX6_worthOf : MethodName := ⟨RX6, "worthOf", "(I)I"⟩
abbrev cX6_winOf : ByteArray := prog_1_method_94_code
def yX6_winOf : MethodName := ⟨RX6, "winOf", "(IIII)I"⟩
abbrev cX6_isAtRest : ByteArray := prog_1_method_95_code
def yX6_isAtRest : MethodName := ⟨RX6, "isAtRest", "(IIII)Z"⟩
abbrev cX6_tryWinter : ByteArray := prog_1_method_96_code
def yX6_tryWinter : MethodName := ⟨RX6, "tryWinter", "(II)J"⟩
abbrev cX6_drawHard : ByteArray := prog_1_method_97_code
def yX6_drawHard : MethodName := ⟨RX6, "drawHard", "(I)I"⟩
abbrev cX6_factorial : ByteArray := prog_1_method_98_code
def yX6_factorial : MethodName := ⟨RX6, "factorial", "(I)J"⟩
abbrev cX6_power : ByteArray := prog_1_method_99_code
def yX6_power : MethodName := ⟨RX6, "power", "(II)J"⟩
abbrev cX6_lowestTerm : ByteArray := prog_1_method_100_code
def yX6_lowestTerm : MethodName := ⟨RX6, "lowestTerm", "(JJI)J"⟩
def RX7 : String := "WaistcoatGreenModel"
def TX7 : u_T := fun k => match k with
  | 0 => ("WaistcoatGreenModel", "thrown", "I", false)
  | 1 => ("WaistcoatGreenModel", "width", "[I", true)
  | 2 => ("WaistcoatGreenModel", "many", "[I", true)
  | 3 => ("WaistcoatGreenModel", "cells", "[J", true)
  | 4 => ("WaistcoatGreenModel", "moved", "[J", true)
  | 5 => ("WaistcoatGreenModel", "tape", "[B", true)
  | 6 => ("WaistcoatGreenModel", "taped", "I", false)
  | 7 => ("WaistcoatGreenModel", "spot", "I", false)
  | 8 => ("WaistcoatGreenModel", "token", "I", false)
  | 9 => ("WaistcoatGreenModel", "place", "I", false)
  | 10 => ("WaistcoatGreenModel", "value", "I", false)
  | 11 => ("WaistcoatGreenModel", "word", "J", false)
  | 12 => ("WaistcoatGreenModel", "bad", "I", false)
  | 13 => ("WaistcoatGreenModel", "badPlace", "I", false)
  | 14 => ("WaistcoatGreenModel", "fault", "I", false)
  | 15 => ("WaistcoatGreenModel", "faultPlace", "I", false)
  | 16 => ("WaistcoatGreenModel", "lines", "[I", true)
  | 17 => ("WaistcoatGreenModel", "has", "[I", true)
  | 18 => ("WaistcoatGreenModel", "man", "[I", true)
  | 19 => ("WaistcoatGreenModel", "hand", "[I", true)
  | 20 => ("WaistcoatGreenModel", "ice", "[I", true)
  | 21 => ("WaistcoatGreenModel", "act", "[I", true)
  | 22 => ("WaistcoatGreenModel", "isKept", "[Z", true)
  | 23 => ("WaistcoatGreenModel", "law", "I", false)
  | 24 => ("WaistcoatGreenModel", "hard", "I", false)
  | 25 => ("WaistcoatGreenModel", "refusing", "I", false)
  | 26 => ("WaistcoatGreenModel", "outside", "I", false)
  | 27 => ("WaistcoatGreenModel", "begun", "I", false)
  | 28 => ("WaistcoatGreenModel", "coldTold", "[I", true)
  | 29 => ("WaistcoatGreenModel", "shyTold", "[I", true)
  | 30 => ("WaistcoatGreenModel", "handOf", "[I", true)
  | 31 => ("WaistcoatGreenModel", "haves", "[I", true)
  | 32 => ("WaistcoatGreenModel", "passed", "[I", true)
  | 33 => ("WaistcoatGreenModel", "cold", "[I", true)
  | 34 => ("WaistcoatGreenModel", "lieBest", "I", false)
  | 35 => ("WaistcoatGreenModel", "lieLeast", "I", false)
  | 36 => ("WaistcoatGreenModel", "planLeast", "I", false)
  | 37 => ("WaistcoatGreenModel", "planMany", "I", false)
  | 38 => ("WaistcoatGreenModel", "planRow", "[I", true)
  | 39 => ("WaistcoatGreenModel", "planNow", "[I", true)
  | 40 => ("WaistcoatGreenModel", "planCold", "[I", true)
  | 41 => ("WaistcoatGreenModel", "seenMany", "I", false)
  | 42 => ("WaistcoatGreenModel", "seenLow", "I", false)
  | 43 => ("WaistcoatGreenModel", "seenHigh", "I", false)
  | 44 => ("WaistcoatGreenModel", "askBest", "I", false)
  | 45 => ("WaistcoatGreenModel", "askLeaves", "I", false)
  | _ => ("WaistcoatGreenModel", "oftenAt", "[I", true)
def tyX7 : Nat → FieldType := fun k => match k with
  | 0 => .int
  | 1 => .array .int
  | 2 => .array .int
  | 3 => .array .long
  | 4 => .array .long
  | 5 => .array .byte
  | 6 => .int
  | 7 => .int
  | 8 => .int
  | 9 => .int
  | 10 => .int
  | 11 => .long
  | 12 => .int
  | 13 => .int
  | 14 => .int
  | 15 => .int
  | 16 => .array .int
  | 17 => .array .int
  | 18 => .array .int
  | 19 => .array .int
  | 20 => .array .int
  | 21 => .array .int
  | 22 => .array .boolean
  | 23 => .int
  | 24 => .int
  | 25 => .int
  | 26 => .int
  | 27 => .int
  | 28 => .array .int
  | 29 => .array .int
  | 30 => .array .int
  | 31 => .array .int
  | 32 => .array .int
  | 33 => .array .int
  | 34 => .int
  | 35 => .int
  | 36 => .int
  | 37 => .int
  | 38 => .array .int
  | 39 => .array .int
  | 40 => .array .int
  | 41 => .int
  | 42 => .int
  | 43 => .int
  | 44 => .int
  | 45 => .int
  | _ => .array .int
abbrev wsX70 : List Cond := u_ws RX7 TX7 47
theorem nmX7 : ∀ a, a < 47 → ∀ b, b < 47 → a ≠ b → (TX7 a).2.1 ≠ (TX7 b).2.1 := by decide +kernel
theorem tyX7_ok : ∀ k, k < 47 → parseFieldDescriptor (TX7 k).2.2.1 = some (tyX7 k) := by decide +kernel
abbrev cX7_init : ByteArray := prog_9_method_1_code
def yX7_init : MethodName := ⟨RX7, "<init>", "()V"⟩
abbrev cX7_in : ByteArray := prog_9_method_3_code
def yX7_in : MethodName := ⟨RX7, "in", "(JJJ)Z"⟩
abbrev cX7_isSlot : ByteArray := prog_9_method_4_code
def yX7_isSlot : MethodName := ⟨RX7, "isSlot", "(I)Z"⟩
abbrev cX7_row : ByteArray := prog_9_method_5_code
def yX7_row : MethodName := ⟨RX7, "row", "(III)I"⟩
abbrev cX7_cut : ByteArray := prog_9_method_6_code
def yX7_cut : MethodName := ⟨RX7, "cut", "(JI)J"⟩
abbrev cX7_write : ByteArray := prog_9_method_7_code
def yX7_write : MethodName := ⟨RX7, "write", "(IIJ)I"⟩
abbrev cX7_paste : ByteArray := prog_9_method_8_code
def yX7_paste : MethodName := ⟨RX7, "paste", "(IIIII)I"⟩
abbrev cX7_feed : ByteArray := prog_9_method_9_code
def yX7_feed : MethodName := ⟨RX7, "feed", "(IIIII)I"⟩
abbrev cX7_four : ByteArray := prog_9_method_10_code
def yX7_four : MethodName := ⟨RX7, "four", "(I)V"⟩
abbrev cX7_end : ByteArray := prog_9_method_11_code
def yX7_end : MethodName := ⟨RX7, "end", "(I)I"⟩
abbrev cX7_isByte : ByteArray := prog_9_method_12_code
def yX7_isByte : MethodName := ⟨RX7, "isByte", "(III)Z"⟩
abbrev cX7_next : ByteArray := prog_9_method_13_code
def yX7_next : MethodName := ⟨RX7, "next", "()V"⟩
abbrev cX7_isGood : ByteArray := prog_9_method_14_code
def yX7_isGood : MethodName := ⟨RX7, "isGood", "()Z"⟩
abbrev cX7_fails : ByteArray := prog_9_method_15_code
def yX7_fails : MethodName := ⟨RX7, "fails", "(I)V"⟩
abbrev cX7_is : ByteArray := prog_9_method_16_code
def yX7_is : MethodName := ⟨RX7, "is", "(J)Z"⟩
abbrev cX7_takesWord : ByteArray := prog_9_method_17_code
def yX7_takesWord : MethodName := ⟨RX7, "takesWord", "(J)Z"⟩
abbrev cX7_asks : ByteArray := prog_9_method_18_code
def yX7_asks : MethodName := ⟨RX7, "asks", "(J)V"⟩
abbrev cX7_number : ByteArray := prog_9_method_19_code
def yX7_number : MethodName := ⟨RX7, "number", "(II)I"⟩
abbrev cX7_number_ : ByteArray := prog_9_method_20_code
def yX7_number_ : MethodName := ⟨RX7, "number", "(JII)I"⟩
abbrev cX7_ends : ByteArray := prog_9_method_21_code
def yX7_ends : MethodName := ⟨RX7, "ends", "()V"⟩
abbrev cX7_begins : ByteArray := prog_9_method_22_code
def yX7_begins : MethodName := ⟨RX7, "begins", "()V"⟩
abbrev cX7_isOver : ByteArray := prog_9_method_23_code
def yX7_isOver : MethodName := ⟨RX7, "isOver", "()V"⟩
abbrev cX7_fault : ByteArray := prog_9_method_24_code
def yX7_fault : MethodName := ⟨RX7, "fault", "(I)I"⟩
abbrev cX7_hasRead : ByteArray := prog_9_method_25_code
def yX7_hasRead : MethodName := ⟨RX7, "hasRead", "(I)I"⟩
abbrev cX7_tells : ByteArray := prog_9_method_26_code
def yX7_tells : MethodName := ⟨RX7, "tells", "(II)V"⟩
abbrev cX7_manHere : ByteArray := prog_9_method_27_code
def yX7_manHere : MethodName := ⟨RX7, "manHere", "()I"⟩
abbrev cX7_villagerLine : ByteArray := prog_9_method_28_code
def yX7_villagerLine : MethodName := ⟨RX7, "villagerLine", "()V"⟩
abbrev cX7_handLine : ByteArray := prog_9_method_29_code
def yX7_handLine : MethodName := ⟨RX7, "handLine", "()V"⟩
abbrev cX7_frostLine : ByteArray := prog_9_method_30_code
def yX7_frostLine : MethodName := ⟨RX7, "frostLine", "()V"⟩
abbrev cX7_isRoom : ByteArray := prog_9_method_31_code
def yX7_isRoom : MethodName := ⟨RX7, "isRoom", "(ZII)Z"⟩
abbrev cX7_lineHere : ByteArray := prog_9_method_32_code
def yX7_lineHere : MethodName := ⟨RX7, "lineHere", "()V"⟩
abbrev cX7_clears : ByteArray := prog_9_method_33_code
def yX7_clears : MethodName := ⟨RX7, "clears", "()V"⟩
abbrev cX7_green : ByteArray := prog_9_method_34_code
def yX7_green : MethodName := ⟨RX7, "green", "()I"⟩
abbrev cX7_copyRow : ByteArray := prog_9_method_35_code
def yX7_copyRow : MethodName := ⟨RX7, "copyRow", "([IIII)V"⟩
abbrev cX7_copyGreen : ByteArray := prog_9_method_36_code
def yX7_copyGreen : MethodName := ⟨RX7, "copyGreen", "(II)V"⟩
abbrev cX7_isGreen : ByteArray := prog_9_method_37_code
def yX7_isGreen : MethodName := ⟨RX7, "isGreen", "()Z"⟩
abbrev cX7_folk : ByteArray := prog_9_method_38_code
def yX7_folk : MethodName := ⟨RX7, "folk", "()I"⟩
abbrev cX7_mornings : ByteArray := prog_9_method_39_code
def yX7_mornings : MethodName := ⟨RX7, "mornings", "()I"⟩
abbrev cX7_isMan : ByteArray := prog_9_method_40_code
def yX7_isMan : MethodName := ⟨RX7, "isMan", "(J)Z"⟩
abbrev cX7_isMorning : ByteArray := prog_9_method_41_code
def yX7_isMorning : MethodName := ⟨RX7, "isMorning", "(J)Z"⟩
abbrev cX7_isAhead : ByteArray := prog_9_method_42_code
def yX7_isAhead : MethodName := ⟨RX7, "isAhead", "(I)Z"⟩
abbrev cX7_areTwo : ByteArray := prog_9_method_43_code
def yX7_areTwo : MethodName := ⟨RX7, "areTwo", "(II)Z"⟩
abbrev cX7_isThen : ByteArray := prog_9_method_44_code
def yX7_isThen : MethodName := ⟨RX7, "isThen", "(II)Z"⟩
abbrev cX7_isHalf : ByteArray := prog_9_method_45_code
def yX7_isHalf : MethodName := ⟨RX7, "isHalf", "(I)Z"⟩
abbrev cX7_isBit : ByteArray := prog_9_method_46_code
def yX7_isBit : MethodName := ⟨RX7, "isBit", "(II)Z"⟩
abbrev cX7_sizeOf : ByteArray := prog_9_method_47_code
def yX7_sizeOf : MethodName := ⟨RX7, "sizeOf", "(I)I"⟩
abbrev cX7_lessOf : ByteArray := prog_9_method_48_code
def yX7_lessOf : MethodName := ⟨RX7, "lessOf", "(II)I"⟩
abbrev cX7_moreOf : ByteArray := prog_9_method_49_code
def yX7_moreOf : MethodName := ⟨RX7, "moreOf", "(II)I"⟩
abbrev cX7_lays : ByteArray := prog_9_method_50_code
def yX7_lays : MethodName := ⟨RX7, "lays", "()V"⟩
abbrev cX7_joins : ByteArray := prog_9_method_51_code
def yX7_joins : MethodName := ⟨RX7, "joins", "(II)V"⟩
abbrev cX7_reachOf : ByteArray := prog_9_method_52_code
def yX7_reachOf : MethodName := ⟨RX7, "reachOf", "(I)I"⟩
abbrev cX7_frostAt : ByteArray := prog_9_method_53_code
def yX7_frostAt : MethodName := ⟨RX7, "frostAt", "(I)I"⟩
abbrev cX7_sung : ByteArray := prog_9_method_54_code
def yX7_sung : MethodName := ⟨RX7, "sung", "(III)I"⟩
abbrev cX7_givenAt : ByteArray := prog_9_method_55_code
def yX7_givenAt : MethodName := ⟨RX7, "givenAt", "(I)I"⟩
abbrev cX7_coldAt : ByteArray := prog_9_method_56_code
def yX7_coldAt : MethodName := ⟨RX7, "coldAt", "(II)I"⟩
abbrev cX7_isTaking : ByteArray := prog_9_method_57_code
def yX7_isTaking : MethodName := ⟨RX7, "isTaking", "(II)Z"⟩
abbrev cX7_passOf : ByteArray := prog_9_method_58_code
def yX7_passOf : MethodName := ⟨RX7, "passOf", "(II)I"⟩
abbrev cX7_nextCold : ByteArray := prog_9_method_59_code
def yX7_nextCold : MethodName := ⟨RX7, "nextCold", "(IIIZ)I"⟩
abbrev cX7_runs : ByteArray := prog_9_method_60_code
def yX7_runs : MethodName := ⟨RX7, "runs", "()V"⟩
abbrev cX7_laysNow : ByteArray := prog_9_method_61_code
def yX7_laysNow : MethodName := ⟨RX7, "laysNow", "()V"⟩
abbrev cX7_sufferOf : ByteArray := prog_9_method_62_code
def yX7_sufferOf : MethodName := ⟨RX7, "sufferOf", "(I)I"⟩
abbrev cX7_allAt : ByteArray := prog_9_method_63_code
def yX7_allAt : MethodName := ⟨RX7, "allAt", "(I)I"⟩
abbrev cX7_sumNow : ByteArray := prog_9_method_64_code
def yX7_sumNow : MethodName := ⟨RX7, "sumNow", "()I"⟩
abbrev cX7_villager : ByteArray := prog_9_method_65_code
def yX7_villager : MethodName := ⟨RX7, "villager", "(II)I"⟩
abbrev cX7_hands : ByteArray := prog_9_method_66_code
def yX7_hands : MethodName := ⟨RX7, "hands", "(I)I"⟩
abbrev cX7_far : ByteArray := prog_9_method_67_code
def yX7_far : MethodName := ⟨RX7, "far", "(II)I"⟩
abbrev cX7_reach : ByteArray := prog_9_method_68_code
def yX7_reach : MethodName := ⟨RX7, "reach", "(I)I"⟩
abbrev cX7_coverOf : ByteArray := prog_9_method_69_code
def yX7_coverOf : MethodName := ⟨RX7, "coverOf", "()I"⟩
abbrev cX7_cover : ByteArray := prog_9_method_70_code
def yX7_cover : MethodName := ⟨RX7, "cover", "()I"⟩
abbrev cX7_covers : ByteArray := prog_9_method_71_code
def yX7_covers : MethodName := ⟨RX7, "covers", "()I"⟩
abbrev cX7_has : ByteArray := prog_9_method_72_code
def yX7_has : MethodName := ⟨RX7, "has", "(I)I"⟩
abbrev cX7_cold : ByteArray := prog_9_method_73_code
def yX7_cold : MethodName := ⟨RX7, "cold", "(II)I"⟩
abbrev cX7_takes : ByteArray := prog_9_method_74_code
def yX7_takes : MethodName := ⟨RX7, "takes", "(I)I"⟩
abbrev cX7_oneAt : ByteArray := prog_9_method_75_code
def yX7_oneAt : MethodName := ⟨RX7, "oneAt", "(II)I"⟩
abbrev cX7_coldest : ByteArray := prog_9_method_76_code
def yX7_coldest : MethodName := ⟨RX7, "coldest", "(I)I"⟩
abbrev cX7_warmest : ByteArray := prog_9_method_77_code
def yX7_warmest : MethodName := ⟨RX7, "warmest", "(I)I"⟩
abbrev cX7_all : ByteArray := prog_9_method_78_code
def yX7_all : MethodName := ⟨RX7, "all", "(I)I"⟩
abbrev cX7_passes : ByteArray := prog_9_method_79_code
def yX7_passes : MethodName := ⟨RX7, "passes", "(I)I"⟩
abbrev cX7_wornBy : ByteArray := prog_9_method_80_code
def yX7_wornBy : MethodName := ⟨RX7, "wornBy", "(I)I"⟩
abbrev cX7_worn : ByteArray := prog_9_method_81_code
def yX7_worn : MethodName := ⟨RX7, "worn", "(I)I"⟩
abbrev cX7_getsAt : ByteArray := prog_9_method_82_code
def yX7_getsAt : MethodName := ⟨RX7, "getsAt", "(I)I"⟩
abbrev cX7_gets : ByteArray := prog_9_method_83_code
def yX7_gets : MethodName := ⟨RX7, "gets", "(I)I"⟩
abbrev cX7_keeps : ByteArray := prog_9_method_84_code
def yX7_keeps : MethodName := ⟨RX7, "keeps", "(I)I"⟩
abbrev cX7_pump : ByteArray := prog_9_method_85_code
def yX7_pump : MethodName := ⟨RX7, "pump", "()I"⟩
abbrev cX7_right : ByteArray := prog_9_method_86_code
def yX7_right : MethodName := ⟨RX7, "right", "()I"⟩
abbrev cX7_stops : ByteArray := prog_9_method_87_code
def yX7_stops : MethodName := ⟨RX7, "stops", "()I"⟩
abbrev cX7_round : ByteArray := prog_9_method_88_code
def yX7_round : MethodName := ⟨RX7, "round", "()I"⟩
abbrev cX7_suffers : ByteArray := prog_9_method_89_code
def yX7_suffers : MethodName := ⟨RX7, "suffers", "(I)I"⟩
abbrev cX7_sum : ByteArray := prog_9_method_90_code
def yX7_sum : MethodName := ⟨RX7, "sum", "()I"⟩
abbrev cX7_worst : ByteArray := prog_9_method_91_code
def yX7_worst : MethodName := ⟨RX7, "worst", "()I"⟩
abbrev cX7_freezes : ByteArray := prog_9_method_92_code
def yX7_freezes : MethodName := ⟨RX7, "freezes", "(II)I"⟩
abbrev cX7_bluest : ByteArray := prog_9_method_93_code
def yX7_bluest : MethodName := ⟨RX7, "bluest", "(I)I"⟩
abbrev cX7_blue : ByteArray := prog_9_method_94_code
def yX7_blue : MethodName := ⟨RX7, "blue", "()I"⟩
abbrev cX7_alike : ByteArray := prog_9_method_95_code
def yX7_alike : MethodName := ⟨RX7, "alike", "(I)I"⟩
abbrev cX7_colder : ByteArray := prog_9_method_96_code
def yX7_colder : MethodName := ⟨RX7, "colder", "(II)I"⟩
abbrev cX7_near : ByteArray := prog_9_method_97_code
def yX7_near : MethodName := ⟨RX7, "near", "(I)I"⟩
abbrev cX7_frost : ByteArray := prog_9_method_98_code
def yX7_frost : MethodName := ⟨RX7, "frost", "(I)I"⟩
abbrev cX7_jumps : ByteArray := prog_9_method_99_code
def yX7_jumps : MethodName := ⟨RX7, "jumps", "()I"⟩
abbrev cX7_longest : ByteArray := prog_9_method_100_code
def yX7_longest : MethodName := ⟨RX7, "longest", "()I"⟩
abbrev cX7_fair : ByteArray := prog_9_method_101_code
def yX7_fair : MethodName := ⟨RX7, "fair", "()I"⟩
abbrev cX7_rises : ByteArray := prog_9_method_102_code
def yX7_rises : MethodName := ⟨RX7, "rises", "(I)I"⟩
abbrev cX7_waits : ByteArray := prog_9_method_103_code
def yX7_waits : MethodName := ⟨RX7, "waits", "(I)I"⟩
abbrev cX7_returns : ByteArray := prog_9_method_104_code
def yX7_returns : MethodName := ⟨RX7, "returns", "(I)I"⟩
abbrev cX7_laysLie : ByteArray := prog_9_method_105_code
def yX7_laysLie : MethodName := ⟨RX7, "laysLie", "(I)V"⟩
abbrev cX7_gainOf : ByteArray := prog_9_method_106_code
def yX7_gainOf : MethodName := ⟨RX7, "gainOf", "(I)I"⟩
abbrev cX7_lies : ByteArray := prog_9_method_107_code
def yX7_lies : MethodName := ⟨RX7, "lies", "(I)I"⟩
abbrev cX7_gains : ByteArray := prog_9_method_108_code
def yX7_gains : MethodName := ⟨RX7, "gains", "(I)I"⟩
abbrev cX7_liars : ByteArray := prog_9_method_109_code
def yX7_liars : MethodName := ⟨RX7, "liars", "()I"⟩
abbrev cX7_start : ByteArray := prog_9_method_110_code
def yX7_start : MethodName := ⟨RX7, "start", "()I"⟩
abbrev cX7_join : ByteArray := prog_9_method_111_code
def yX7_join : MethodName := ⟨RX7, "join", "()I"⟩
abbrev cX7_planFrom : ByteArray := prog_9_method_112_code
def yX7_planFrom : MethodName := ⟨RX7, "planFrom", "(III)V"⟩
abbrev cX7_laysPlan : ByteArray := prog_9_method_113_code
def yX7_laysPlan : MethodName := ⟨RX7, "laysPlan", "(I)V"⟩
abbrev cX7_isPlan : ByteArray := prog_9_method_114_code
def yX7_isPlan : MethodName := ⟨RX7, "isPlan", "(I)Z"⟩
abbrev cX7_plan : ByteArray := prog_9_method_115_code
def yX7_plan : MethodName := ⟨RX7, "plan", "(I)I"⟩
abbrev cX7_planned : ByteArray := prog_9_method_116_code
def yX7_planned : MethodName := ⟨RX7, "planned", "(II)I"⟩
abbrev cX7_plans : ByteArray := prog_9_method_117_code
def yX7_plans : MethodName := ⟨RX7, "plans", "(I)I"⟩
abbrev cX7_whyNot : ByteArray := prog_9_method_118_code
def yX7_whyNot : MethodName := ⟨RX7, "whyNot", "(IZ)I"⟩
abbrev cX7_isSo : ByteArray := prog_9_method_119_code
def yX7_isSo : MethodName := ⟨RX7, "isSo", "(I)Z"⟩
abbrev cX7_laysSeen : ByteArray := prog_9_method_120_code
def yX7_laysSeen : MethodName := ⟨RX7, "laysSeen", "(II)V"⟩
abbrev cX7_colds : ByteArray := prog_9_method_121_code
def yX7_colds : MethodName := ⟨RX7, "colds", "(II)I"⟩
abbrev cX7_low : ByteArray := prog_9_method_122_code
def yX7_low : MethodName := ⟨RX7, "low", "(II)I"⟩
abbrev cX7_high : ByteArray := prog_9_method_123_code
def yX7_high : MethodName := ⟨RX7, "high", "(II)I"⟩
abbrev cX7_ask : ByteArray := prog_9_method_124_code
def yX7_ask : MethodName := ⟨RX7, "ask", "(II)I"⟩
abbrev cX7_leaves : ByteArray := prog_9_method_125_code
def yX7_leaves : MethodName := ⟨RX7, "leaves", "(II)I"⟩
abbrev cX7_sumBy : ByteArray := prog_9_method_126_code
def yX7_sumBy : MethodName := ⟨RX7, "sumBy", "(I)I"⟩
abbrev cX7_laws : ByteArray := prog_9_method_127_code
def yX7_laws : MethodName := ⟨RX7, "laws", "(I)I"⟩
abbrev cX7_by : ByteArray := prog_9_method_128_code
def yX7_by : MethodName := ⟨RX7, "by", "(I)I"⟩
abbrev cX7_law : ByteArray := prog_9_method_129_code
def yX7_law : MethodName := ⟨RX7, "law", "()I"⟩
abbrev cX7_worthOf : ByteArray := prog_9_method_130_code
def yX7_worthOf : MethodName := ⟨RX7, "worthOf", "(I)I"⟩
abbrev cX7_worth : ByteArray := prog_9_method_131_code
def yX7_worth : MethodName := ⟨RX7, "worth", "(I)I"⟩
abbrev cX7_times : ByteArray := prog_9_method_132_code
def yX7_times : MethodName := ⟨RX7, "times", "(I)I"⟩
abbrev cX7_common : ByteArray := prog_9_method_133_code
def yX7_common : MethodName := ⟨RX7, "common", "(JJ)J"⟩
abbrev cX7_part : ByteArray := prog_9_method_134_code
def yX7_part : MethodName := ⟨RX7, "part", "(JJI)J"⟩
abbrev cX7_share : ByteArray := prog_9_method_135_code
def yX7_share : MethodName := ⟨RX7, "share", "(II)I"⟩
abbrev cX7_winsBy : ByteArray := prog_9_method_136_code
def yX7_winsBy : MethodName := ⟨RX7, "winsBy", "(IIIII)I"⟩
abbrev cX7_rests : ByteArray := prog_9_method_137_code
def yX7_rests : MethodName := ⟨RX7, "rests", "(II)I"⟩
abbrev cX7_wins : ByteArray := prog_9_method_138_code
def yX7_wins : MethodName := ⟨RX7, "wins", "(IIII)I"⟩
abbrev cX7_power : ByteArray := prog_9_method_139_code
def yX7_power : MethodName := ⟨RX7, "power", "(JI)J"⟩
abbrev cX7_weightOf : ByteArray := prog_9_method_140_code
def yX7_weightOf : MethodName := ⟨RX7, "weightOf", "(II)J"⟩
abbrev cX7_isSoon : ByteArray := prog_9_method_141_code
def yX7_isSoon : MethodName := ⟨RX7, "isSoon", "(I)Z"⟩
abbrev cX7_chance : ByteArray := prog_9_method_142_code
def yX7_chance : MethodName := ⟨RX7, "chance", "(III)I"⟩
abbrev cX7_mean : ByteArray := prog_9_method_143_code
def yX7_mean : MethodName := ⟨RX7, "mean", "(II)J"⟩
abbrev cX7_draws : ByteArray := prog_9_method_144_code
def yX7_draws : MethodName := ⟨RX7, "draws", "(J)V"⟩
abbrev cX7_isSeed : ByteArray := prog_9_method_145_code
def yX7_isSeed : MethodName := ⟨RX7, "isSeed", "(I)Z"⟩
abbrev cX7_drawn : ByteArray := prog_9_method_146_code
def yX7_drawn : MethodName := ⟨RX7, "drawn", "(II)I"⟩
abbrev cX7_luck : ByteArray := prog_9_method_147_code
def yX7_luck : MethodName := ⟨RX7, "luck", "(III)I"⟩
abbrev cX7_does : ByteArray := prog_9_method_148_code
def yX7_does : MethodName := ⟨RX7, "does", "(III)V"⟩
abbrev cX7_gives : ByteArray := prog_9_method_149_code
def yX7_gives : MethodName := ⟨RX7, "gives", "(II)I"⟩
abbrev cX7_sings : ByteArray := prog_9_method_150_code
def yX7_sings : MethodName := ⟨RX7, "sings", "(II)I"⟩
abbrev cX7_undo : ByteArray := prog_9_method_151_code
def yX7_undo : MethodName := ⟨RX7, "undo", "()I"⟩
abbrev cX7_anew : ByteArray := prog_9_method_152_code
def yX7_anew : MethodName := ⟨RX7, "anew", "()I"⟩
abbrev cX7_rate : ByteArray := prog_9_method_153_code
def yX7_rate : MethodName := ⟨RX7, "rate", "(II)I"⟩
abbrev cX7_count : ByteArray := prog_9_method_154_code
def yX7_count : MethodName := ⟨RX7, "count", "(I)I"⟩
abbrev cX7_image : ByteArray := prog_9_method_155_code
def yX7_image : MethodName := ⟨RX7, "image", "(I)I"⟩
abbrev cX7_back : ByteArray := prog_9_method_156_code
def yX7_back : MethodName := ⟨RX7, "back", "(I)I"⟩
def RJ6 : String := "java/lang/Integer"
abbrev cJ6_bitCount_0f7a4 : ByteArray := prog_10_method_49_code
def yJ6_bitCount_0f7a4 : MethodName := ⟨RJ6, "bitCount", "(I)I"⟩
def RJ9 : String := "java/lang/Math"
abbrev cJ9_abs_067f4 : ByteArray := prog_11_method_61_code
def yJ9_abs_067f4 : MethodName := ⟨RJ9, "abs", "(J)J"⟩
abbrev cJ9_max_7cf53 : ByteArray := prog_11_method_65_code
def yJ9_max_7cf53 : MethodName := ⟨RJ9, "max", "(II)I"⟩
abbrev cJ9_min_7cf53 : ByteArray := prog_11_method_69_code
def yJ9_min_7cf53 : MethodName := ⟨RJ9, "min", "(II)I"⟩
def RJ0 : String := "java/lang/String"
abbrev cJ0_length_8abf5 : ByteArray := prog_12_method_54_code
def yJ0_length_8abf5 : MethodName := ⟨RJ0, "length", "()I"⟩
abbrev cJ0_charAt_5068e : ByteArray := prog_12_method_56_code
def yJ0_charAt_5068e : MethodName := ⟨RJ0, "charAt", "(I)C"⟩
abbrev cJ0_coder_7d493 : ByteArray := prog_12_method_152_code
def yJ0_coder_7d493 : MethodName := ⟨RJ0, "coder", "()B"⟩
abbrev cJ0_isLatin1_aae02 : ByteArray := prog_12_method_154_code
def yJ0_isLatin1_aae02 : MethodName := ⟨RJ0, "isLatin1", "()Z"⟩
abbrev cJ0_checkIndex_df160 : ByteArray := prog_12_method_155_code
def yJ0_checkIndex_df160 : MethodName := ⟨RJ0, "checkIndex", "(II)V"⟩
def RJ1 : String := "java/lang/StringLatin1"
abbrev cJ1_charAt_3b067 : ByteArray := prog_13_method_2_code
def yJ1_charAt_3b067 : MethodName := ⟨RJ1, "charAt", "([BI)C"⟩
def RJ2 : String := "java/lang/StringUTF16"
abbrev cJ2_getChar_3b067 : ByteArray := prog_14_method_5_code
def yJ2_getChar_3b067 : MethodName := ⟨RJ2, "getChar", "([BI)C"⟩
abbrev cJ2_length_9d52b : ByteArray := prog_14_method_6_code
def yJ2_length_9d52b : MethodName := ⟨RJ2, "length", "([B)I"⟩
abbrev cJ2_charAt_3b067 : ByteArray := prog_14_method_83_code
def yJ2_charAt_3b067 : MethodName := ⟨RJ2, "charAt", "([BI)C"⟩
abbrev cJ2_checkIndex_2214a : ByteArray := prog_14_method_91_code
def yJ2_checkIndex_2214a : MethodName := ⟨RJ2, "checkIndex", "(I[B)V"⟩
def RJ10 : String := "java/lang/System"
def RJ3 : String := "jdk/internal/util/Preconditions"
abbrev cJ3_checkIndex_8e157 : ByteArray := prog_16_method_11_code
def yJ3_checkIndex_8e157 : MethodName := ⟨RJ3, "checkIndex", "(IILjava/util/function/BiFunction;)I"⟩
def RL : String := "WaistcoatGreenLaw"
abbrev vwCl : List vw_C := [(RX0, TX0, 18), (RX1, TX1, 4), (RX2, TX2, 5), (RX3, TX3, 8), (RX4, TX4, 4), (RX5, TX5, 12), (RX6, TX6, 11), (RX7, TX7, 47)]
end
section
/-! ===== a checker of methods: abstract values, and what they mean ===== -/
/-- an abstract value: 0 an int, 1 a long (a symbol and what is added), 2 a cell by its place, 3 null, 4 a cell whose address is a symbol (the script) -/
abbrev zV : Type := Nat × Nat × Int
abbrev zI : Type := Int × Int
/-- a cell: an object (class, fields), an array of numbers (type, length, bounds), an array place by place -/
abbrev zC : Type := (Nat × List zV) ⊕ ((Nat × Nat × Int × Int) ⊕ (Nat × List zV))
/-- symbols' bounds, locals, stack, heap, cells and slots made -/
abbrev zS : Type := List zI × List (Nat × zV) × List zV × List zC × Nat × Nat
def z_ile : Int → Int → Bool
  | .ofNat a, .ofNat b => Nat.ble a b
  | .negSucc _, .ofNat _ => true
  | .ofNat _, .negSucc _ => false
  | .negSucc a, .negSucc b => Nat.ble b a
theorem z_ile_ok {a b : Int} (h : z_ile a b = true) : a ≤ b := by
  cases a with
  | ofNat a =>
    cases b with
    | ofNat b =>
      have h1 := Nat.le_of_ble_eq_true h
      show (a : Int) ≤ (b : Int)
      omega
    | negSucc b => cases h
  | negSucc a =>
    cases b with
    | ofNat b =>
      show Int.negSucc a ≤ (b : Int)
      omega
    | negSucc b =>
      have h1 := Nat.le_of_ble_eq_true h
      omega
theorem z_ile_no {a b : Int} (h : z_ile a b = false) : b < a := by
  cases a with
  | ofNat a =>
    cases b with
    | ofNat b =>
      have h1 : ¬ a ≤ b := fun q => by
        have h2 := Nat.ble_eq_true_of_le q
        rw [show Nat.ble a b = z_ile (.ofNat a) (.ofNat b) from rfl, h] at h2
        cases h2
      show (b : Int) < (a : Int)
      omega
    | negSucc b =>
      show Int.negSucc b < (a : Int)
      omega
  | negSucc a =>
    cases b with
    | ofNat b => cases h
    | negSucc b =>
      have h1 : ¬ b ≤ a := fun q => by
        have h2 := Nat.ble_eq_true_of_le q
        rw [show Nat.ble b a = z_ile (.negSucc a) (.negSucc b) from rfl, h] at h2
        cases h2
      omega
def z_ieq (a b : Int) : Bool := z_ile a b && z_ile b a
theorem z_and {a b : Bool} (h : (a && b) = true) : a = true ∧ b = true := by
  cases a <;> cases b <;> first | exact ⟨rfl, rfl⟩ | cases h
theorem z_ieq_ok {a b : Int} (h : z_ieq a b = true) : a = b := by
  have h1 := z_and h
  have h2 := z_ile_ok h1.1
  have h3 := z_ile_ok h1.2
  omega
theorem z_beq {a b : Nat} (h : Nat.beq a b = true) : a = b := Nat.eq_of_beq_eq_true h
def z_max (a b : Int) : Int := if z_ile a b = true then b else a
def z_min (a b : Int) : Int := if z_ile a b = true then a else b
theorem z_max_ge {a b z : Int} (h1 : a ≤ z) (h2 : b ≤ z) : z_max a b ≤ z := by
  unfold z_max; split <;> assumption
theorem z_min_le {a b z : Int} (h1 : z ≤ a) (h2 : z ≤ b) : z ≤ z_min a b := by
  unfold z_min; split <;> assumption
theorem z_max_l (a b : Int) : a ≤ z_max a b := by
  unfold z_max; split
  · rename_i h; exact z_ile_ok h
  · exact Int.le_refl a
theorem z_max_r (a b : Int) : b ≤ z_max a b := by
  unfold z_max; split
  · exact Int.le_refl b
  · rename_i h
    have := z_ile_no (Bool.eq_false_iff.mpr h)
    omega
theorem z_min_l (a b : Int) : z_min a b ≤ a := by
  unfold z_min; split
  · exact Int.le_refl a
  · rename_i h
    have := z_ile_no (Bool.eq_false_iff.mpr h)
    omega
theorem z_min_r (a b : Int) : z_min a b ≤ b := by
  unfold z_min; split
  · rename_i h; exact z_ile_ok h
  · exact Int.le_refl b
/-! lists side by side -/
def z_F {α β : Type} (R : α → β → Prop) : List α → List β → Prop
  | [], [] => True
  | a :: l, b :: k => R a b ∧ z_F R l k
  | [], _ :: _ => False
  | _ :: _, [] => False
theorem z_F.len {α β : Type} {R : α → β → Prop} : ∀ {l : List α} {k : List β}, z_F R l k → l.length = k.length
  | [], [], _ => rfl
  | _ :: _, _ :: _, h => congrArg (· + 1) (z_F.len h.2)
  | [], _ :: _, h => h.elim
  | _ :: _, [], h => h.elim
theorem z_F.get {α β : Type} {R : α → β → Prop} : ∀ {l : List α} {k : List β}, z_F R l k → ∀ {i : Nat} {a : α}, l[i]? = some a → ∃ b, k[i]? = some b ∧ R a b
  | [], [], _, i, a, h => by simp at h
  | x :: l, y :: k, h, 0, a, e => by
    rw [List.getElem?_cons_zero] at e
    cases e
    exact ⟨y, by rw [List.getElem?_cons_zero], h.1⟩
  | x :: l, y :: k, h, i + 1, a, e => by
    rw [List.getElem?_cons_succ] at e
    obtain ⟨b, h1, h2⟩ := z_F.get h.2 e
    exact ⟨b, by rw [List.getElem?_cons_succ]; exact h1, h2⟩
  | [], _ :: _, h, _, _, _ => h.elim
  | _ :: _, [], h, _, _, _ => h.elim
theorem z_F.get' {α β : Type} {R : α → β → Prop} : ∀ {l : List α} {k : List β}, z_F R l k → ∀ {i : Nat} {b : β}, k[i]? = some b → ∃ a, l[i]? = some a ∧ R a b
  | [], [], _, i, a, h => by simp at h
  | x :: l, y :: k, h, 0, a, e => by
    rw [List.getElem?_cons_zero] at e
    cases e
    exact ⟨x, by rw [List.getElem?_cons_zero], h.1⟩
  | x :: l, y :: k, h, i + 1, a, e => by
    rw [List.getElem?_cons_succ] at e
    obtain ⟨b, h1, h2⟩ := z_F.get' h.2 e
    exact ⟨b, by rw [List.getElem?_cons_succ]; exact h1, h2⟩
  | [], _ :: _, h, _, _, _ => h.elim
  | _ :: _, [], h, _, _, _ => h.elim
theorem z_F.set {α β : Type} {R : α → β → Prop} {a : α} {b : β} (hab : R a b) : ∀ {l : List α} {k : List β}, z_F R l k → ∀ i : Nat, z_F R (l.set i a) (k.set i b)
  | [], [], _, i => trivial
  | x :: l, y :: k, h, 0 => ⟨hab, h.2⟩
  | x :: l, y :: k, h, i + 1 => ⟨h.1, z_F.set hab h.2 i⟩
  | [], _ :: _, h, _ => h.elim
  | _ :: _, [], h, _ => h.elim
theorem z_F.app {α β : Type} {R : α → β → Prop} {l2 : List α} {k2 : List β} (h2 : z_F R l2 k2) : ∀ {l : List α} {k : List β}, z_F R l k → z_F R (l ++ l2) (k ++ k2)
  | [], [], _ => h2
  | x :: l, y :: k, h => ⟨h.1, z_F.app h2 h.2⟩
  | [], _ :: _, h => h.elim
  | _ :: _, [], h => h.elim
theorem z_F.mono {α β : Type} {R R' : α → β → Prop} (hR : ∀ a b, R a b → R' a b) : ∀ {l : List α} {k : List β}, z_F R l k → z_F R' l k
  | [], [], _ => trivial
  | x :: l, y :: k, h => ⟨hR _ _ h.1, z_F.mono hR h.2⟩
  | [], _ :: _, h => h.elim
  | _ :: _, [], h => h.elim
theorem z_F.filter {α β : Type} {R : α → β → Prop} {f : α → Bool} {g : β → Bool} (hfg : ∀ a b, R a b → f a = g b) : ∀ {l : List α} {k : List β}, z_F R l k → z_F R (l.filter f) (k.filter g)
  | [], [], _ => trivial
  | x :: l, y :: k, h => by
    have e := hfg x y h.1
    rw [List.filter_cons, List.filter_cons, ← e]
    cases f x
    · exact z_F.filter hfg h.2
    · exact ⟨h.1, z_F.filter hfg h.2⟩
  | [], _ :: _, h => h.elim
  | _ :: _, [], h => h.elim
theorem z_F.split {α β : Type} {R : α → β → Prop} : ∀ {l l2 : List α} {k : List β}, z_F R (l ++ l2) k → ∃ k1 k2, k = k1 ++ k2 ∧ z_F R l k1 ∧ z_F R l2 k2
  | [], l2, k, h => ⟨[], k, rfl, trivial, h⟩
  | x :: l, l2, [], h => h.elim
  | x :: l, l2, y :: k, h => by
    obtain ⟨k1, k2, e, h1, h2⟩ := z_F.split (l := l) (l2 := l2) h.2
    exact ⟨y :: k1, k2, by rw [e]; rfl, ⟨h.1, h1⟩, h2⟩
theorem z_F.rev {α β : Type} {R : α → β → Prop} : ∀ {l : List α} {k : List β}, z_F R l k → z_F R l.reverse k.reverse
  | [], [], _ => trivial
  | x :: l, y :: k, h => by
    rw [List.reverse_cons, List.reverse_cons]
    exact z_F.app (l2 := [x]) (k2 := [y]) ⟨h.1, trivial⟩ (z_F.rev h.2)
  | [], _ :: _, h => h.elim
  | _ :: _, [], h => h.elim
theorem z_pre {α : Type} {l l' : List α} (h : l <+: l') {i : Nat} {a : α} (e : l[i]? = some a) : l'[i]? = some a := by
  obtain ⟨t, rfl⟩ := h
  have hl := (List.getElem?_eq_some_iff.mp e).1
  rw [List.getElem?_append_left hl]
  exact e
/-! what an abstract value means -/
def z_v (ρ : List Int) (x : Nat) (c z : Int) : Prop := ∃ w : Int, ρ[x]? = some w ∧ z = w + c
def z_m (ρ : List Int) (ad : List Nat) : zV → Value → Prop
  | (0, x, c), v => ∃ i : Int32, v = .int i ∧ z_v ρ x c i.toInt
  | (1, x, c), v => ∃ i : Int64, v = .long i ∧ z_v ρ x c i.toInt
  | (2, k, _), v => ∃ q : Nat, ad[k]? = some q ∧ v = .ref q
  | (3, _, _), v => v = .null
  | (_, x, _), v => ∃ q : Nat, ρ[x]? = some (q : Int) ∧ v = .ref q
theorem z_v.mono {ρ ρ' : List Int} (h : ρ <+: ρ') {x : Nat} {c z : Int} (hv : z_v ρ x c z) : z_v ρ' x c z := by
  obtain ⟨w, h1, h2⟩ := hv
  exact ⟨w, z_pre h h1, h2⟩
theorem z_v.const {ρ : List Int} (h0 : ρ[0]? = some 0) {c z : Int} (h : z_v ρ 0 c z) : z = c := by
  obtain ⟨w, h1, h2⟩ := h
  rw [h0] at h1
  cases h1
  omega
theorem z_v.of0 {ρ : List Int} (h0 : ρ[0]? = some 0) (c : Int) : z_v ρ 0 c c := ⟨0, h0, by omega⟩
theorem z_m.mono {ρ ρ' : List Int} {ad ad' : List Nat} (h : ρ <+: ρ') (h2 : ad <+: ad') : ∀ {a : zV} {v : Value}, z_m ρ ad a v → z_m ρ' ad' a v
  | (0, x, c), v, hm => by
    obtain ⟨i, e, hv⟩ := hm
    exact ⟨i, e, hv.mono h⟩
  | (1, x, c), v, hm => by
    obtain ⟨i, e, hv⟩ := hm
    exact ⟨i, e, hv.mono h⟩
  | (2, k, _), v, hm => by
    obtain ⟨q, e, hv⟩ := hm
    exact ⟨q, z_pre h2 e, hv⟩
  | (3, _, _), v, hm => hm
  | (_ + 4, _, _), v, hm => by
    obtain ⟨q, e, hv⟩ := hm
    exact ⟨q, z_pre h e, hv⟩
theorem z_m.cat {ρ : List Int} {ad : List Nat} : ∀ {a : zV} {v : Value}, z_m ρ ad a v → (v.category == 2) = (a.1 == 1)
  | (0, x, c), v, hm => by
    obtain ⟨i, rfl, -⟩ := hm
    rfl
  | (1, x, c), v, hm => by
    obtain ⟨i, rfl, -⟩ := hm
    rfl
  | (2, k, _), v, hm => by
    obtain ⟨q, -, rfl⟩ := hm
    rfl
  | (3, _, _), v, hm => by
    have e : v = .null := hm
    subst e
    rfl
  | (n + 4, _, _), v, hm => by
    obtain ⟨q, -, rfl⟩ := hm
    rfl
/-- a symbol is in its bounds; bounds that are none (the upper below the lower) say nothing -/
def z_iv (ivs : List zI) (ρ : List Int) : Prop := z_F (fun b z => b.2 < b.1 ∨ (b.1 ≤ z ∧ z ≤ b.2)) ivs ρ
def z_c (tys : List (ClassId × FieldType)) (ρ : List Int) (ad : List Nat) : zC → va_E → Prop
  | .inl (ci, fs), e => ∃ vs, e = .inr (ci, vs) ∧ z_F (z_m ρ ad) fs vs
  | .inr (.inl (t, n, lo, hi)), e => ∃ (cA : ClassId) (ty : FieldType), tys[t]? = some (cA, ty) ∧
      ((t < 3 ∧ ∃ f : Nat → Int32, e = .inl (cA, n, .inl f) ∧ ∀ j, j < n → lo ≤ (f j).toInt ∧ (f j).toInt ≤ hi) ∨
       (t = 3 ∧ ∃ f : Nat → Int64, e = .inl (cA, n, .inr (.inl f)) ∧ ∀ j, j < n → lo ≤ (f j).toInt ∧ (f j).toInt ≤ hi))
  | .inr (.inr (t, es)), e => ∃ (cA : ClassId) (ty : FieldType), tys[t]? = some (cA, ty) ∧
      ((t < 3 ∧ ∃ f : Nat → Int32, e = .inl (cA, es.length, .inl f) ∧ ∀ (j : Nat) (a : zV), es[j]? = some a → z_m ρ ad a (.int (f j))) ∨
       (3 < t ∧ ∃ f : Nat → Option Nat, e = .inl (cA, es.length, .inr (.inr (.inr (.inr f)))) ∧ ∀ (j : Nat) (a : zV), es[j]? = some a → z_m ρ ad a (va_rf (f j))))
theorem z_c.mono {tys : List (ClassId × FieldType)} {ρ ρ' : List Int} {ad ad' : List Nat} (h : ρ <+: ρ') (h2 : ad <+: ad') : ∀ {a : zC} {e : va_E}, z_c tys ρ ad a e → z_c tys ρ' ad' a e
  | .inl (ci, fs), e, hc => by
    obtain ⟨vs, e1, hF⟩ := hc
    exact ⟨vs, e1, hF.mono (fun _ _ q => q.mono h h2)⟩
  | .inr (.inl (t, n, lo, hi)), e, hc => hc
  | .inr (.inr (t, es)), e, hc => by
    obtain ⟨cA, ty, e1, ⟨e2, f, e3, e4⟩ | ⟨e2, f, e3, e4⟩⟩ := hc
    · exact ⟨cA, ty, e1, Or.inl ⟨e2, f, e3, fun j a q => (e4 j a q).mono h h2⟩⟩
    · exact ⟨cA, ty, e1, Or.inr ⟨e2, f, e3, fun j a q => (e4 j a q).mono h h2⟩⟩
/-- the addresses of a world -/
def z_ad (ws : va_W) : List Nat := ws.map (fun q => q.1)
def z_Lo (ρ : List Int) (ad : List Nat) (a : Nat × zV) (q : Nat × Value) : Prop := a.1 = q.1 ∧ z_m ρ ad a.2 q.2
def z_H (tys : List (ClassId × FieldType)) (ρ : List Int) (ad : List Nat) (a : zC) (q : Nat × va_E) : Prop := z_c tys ρ ad a q.2
/-- numbers that stay: the first symbol is 0 -/
def z_g (D : va_G) (cl : List vw_C) (tys : List (ClassId × FieldType)) (A : Nat → Prop) (H0 : Heap) (nL : Nat) (ρ0 : List Int) (ad0 : List Nat) (S : zS) (ρ : List Int) (ws : va_W) (lv : List (Nat × Value)) (st : List Value) (H : Heap) (locs : List Loc) (ls : Array Slot) : Prop :=
  (ρ0 <+: ρ ∧ ad0 <+: z_ad ws ∧ ρ[0]? = some 0) ∧ z_iv S.1 ρ ∧ z_F (z_Lo ρ (z_ad ws)) S.2.1 lv ∧ z_F (z_m ρ (z_ad ws)) S.2.2.1 st ∧ z_F (z_H tys ρ (z_ad ws)) S.2.2.2.1 ws ∧
  va_P D cl ws H ∧ va_D A ws ∧ va_S A H0 H locs ∧ lv_has ls nL lv
theorem z_iv.app {ivs : List zI} {ρ : List Int} {b : zI} {z : Int} (h : z_iv ivs ρ) (h1 : b.1 ≤ z) (h2 : z ≤ b.2) : z_iv (ivs ++ [b]) (ρ ++ [z]) := z_F.app (R := fun (b : zI) (z : Int) => b.2 < b.1 ∨ (b.1 ≤ z ∧ z ≤ b.2)) (l2 := [b]) (k2 := [z]) ⟨Or.inr ⟨h1, h2⟩, trivial⟩ h
theorem z_iv.last {ivs : List zI} {ρ : List Int} (h : z_iv ivs ρ) (z : Int) : z_v (ρ ++ [z]) ivs.length 0 z := by
  have e := z_F.len h
  refine ⟨z, ?_, by omega⟩
  rw [e, List.getElem?_append_right (Nat.le_refl _), Nat.sub_self]
  rfl
theorem z_app_pre {α : Type} (l : List α) (t : List α) : l <+: l ++ t := ⟨t, rfl⟩
/-- a state as it was, with more symbols -/
theorem z_g.more {D : va_G} {cl : List vw_C} {tys : List (ClassId × FieldType)} {A : Nat → Prop} {H0 : Heap} {nL : Nat} {ρ0 : List Int} {ad0 : List Nat} {ivs ivs' : List zI} {lo : List (Nat × zV)} {sk : List zV} {hp : List zC} {nc ns : Nat} {ρ ρ' : List Int} {ws : va_W} {lv : List (Nat × Value)} {st : List Value} {H : Heap} {locs : List Loc} {ls : Array Slot}
    (h : z_g D cl tys A H0 nL ρ0 ad0 (ivs, lo, sk, hp, nc, ns) ρ ws lv st H locs ls) (hp1 : ρ <+: ρ') (hiv : z_iv ivs' ρ') : z_g D cl tys A H0 nL ρ0 ad0 (ivs', lo, sk, hp, nc, ns) ρ' ws lv st H locs ls := by
  obtain ⟨⟨a1, a3, a4⟩, b1, b3, b4, b5, b6, b7, b8, b9⟩ := h
  exact ⟨⟨a1.trans hp1, a3, z_pre hp1 a4⟩, hiv, b3.mono (fun _ _ q => ⟨q.1, q.2.mono hp1 (List.prefix_refl _)⟩), b4.mono (fun _ _ q => q.mono hp1 (List.prefix_refl _)), b5.mono (fun _ _ q => z_c.mono hp1 (List.prefix_refl _) q), b6, b7, b8, b9⟩
end
section
/-! ===== numbers: bounds, results, what a branch tells ===== -/
def z_b (ivs : List zI) (x : Nat) (c : Int) : Option zI := match ivs[x]? with
  | some (lo, hi) => match z_ile lo hi with
    | true => some (lo + c, hi + c)
    | false => none
  | none => none
theorem z_b_ok {ivs : List zI} {ρ : List Int} {x : Nat} {c z lo hi : Int} (h : z_iv ivs ρ) (hv : z_v ρ x c z) (hb : z_b ivs x c = some (lo, hi)) : lo ≤ z ∧ z ≤ hi := by
  obtain ⟨w, h1, h2⟩ := hv
  obtain ⟨b, h3, h4⟩ := z_F.get' h h1
  unfold z_b at hb
  rw [h3] at hb
  obtain ⟨l, u⟩ := b
  dsimp only at hb h4
  split at hb
  · rename_i e
    have e := z_ile_ok e
    cases hb
    omega
  · cases hb
def z_lim (t : Nat) : zI := match t with
  | 0 => (-2147483648, 2147483647)
  | _ => (-9223372036854775808, 9223372036854775807)
def z_fit (t : Nat) (lo hi : Int) : Bool := z_ile (z_lim t).1 lo && z_ile hi (z_lim t).2
def z_new (t : Nat) (lo hi : Int) (ivs : List zI) : zV × List zI := match z_ieq lo hi with
  | true => ((t, 0, lo), ivs)
  | false => ((t, ivs.length, 0), ivs ++ [(lo, hi)])
def z_top (t : Nat) (ivs : List zI) : zV × List zI := ((t, ivs.length, 0), ivs ++ [z_lim t])
def z_num (t : Nat) (lo hi : Int) (ivs : List zI) : zV × List zI := match z_fit t lo hi with
  | true => z_new t lo hi ivs
  | false => z_top t ivs
/-- a result: its value is z, under symbols that may be more -/
def z_R (t : Nat) (ρ : List Int) (out : zV × List zI) (z : Int) : Prop := out.1.1 = t ∧ ∃ ρ', ρ <+: ρ' ∧ z_iv out.2 ρ' ∧ z_v ρ' out.1.2.1 out.1.2.2 z
theorem z_new_ok {t : Nat} {lo hi z : Int} {ivs : List zI} {ρ : List Int} (h : z_iv ivs ρ) (h0 : ρ[0]? = some 0) (h1 : lo ≤ z) (h2 : z ≤ hi) : z_R t ρ (z_new t lo hi ivs) z := by
  unfold z_new
  split
  · rename_i e
    have e := z_ieq_ok e
    have e2 : z = lo := by omega
    exact ⟨rfl, ρ, List.prefix_refl _, h, by rw [e2]; exact z_v.of0 h0 lo⟩
  · exact ⟨rfl, ρ ++ [z], z_app_pre _ _, h.app (b := (lo, hi)) h1 h2, h.last z⟩
theorem z_top_ok {t : Nat} {z : Int} {ivs : List zI} {ρ : List Int} (h : z_iv ivs ρ) (h1 : (z_lim t).1 ≤ z) (h2 : z ≤ (z_lim t).2) : z_R t ρ (z_top t ivs) z := ⟨rfl, ρ ++ [z], z_app_pre _ _, h.app h1 h2, h.last z⟩
theorem z_num_ok {t : Nat} {lo hi z : Int} {ivs : List zI} {ρ : List Int} (h : z_iv ivs ρ) (h0 : ρ[0]? = some 0) (h1 : (z_lim t).1 ≤ z) (h2 : z ≤ (z_lim t).2) (h3 : z_fit t lo hi = true → lo ≤ z ∧ z ≤ hi) : z_R t ρ (z_num t lo hi ivs) z := by
  unfold z_num
  split
  · rename_i e
    exact z_new_ok h h0 (h3 e).1 (h3 e).2
  · exact z_top_ok h h1 h2
theorem z_fit_ok {t : Nat} {lo hi : Int} (h : z_fit t lo hi = true) : (z_lim t).1 ≤ lo ∧ hi ≤ (z_lim t).2 := ⟨z_ile_ok (z_and h).1, z_ile_ok (z_and h).2⟩
/-- a value that is a symbol and a number already -/
theorem z_R.same {t : Nat} {ρ : List Int} {ivs : List zI} {x : Nat} {c z : Int} (h : z_iv ivs ρ) (hv : z_v ρ x c z) : z_R t ρ ((t, x, c), ivs) z := ⟨rfl, ρ, List.prefix_refl _, h, hv⟩
theorem z_v.add {ρ : List Int} {x : Nat} {c z : Int} (h : z_v ρ x c z) (d : Int) : z_v ρ x (c + d) (z + d) := by
  obtain ⟨w, h1, h2⟩ := h
  exact ⟨w, h1, by omega⟩
def z_add (t : Nat) (ivs : List zI) (x : Nat) (c : Int) (y : Nat) (d : Int) : Option (zV × List zI) := match z_b ivs x c, z_b ivs y d with
  | some (l1, h1), some (l2, h2) => match z_fit t (l1 + l2) (h1 + h2) with
    | true => match Nat.beq y 0, Nat.beq x 0 with
      | true, _ => some ((t, x, c + d), ivs)
      | false, true => some ((t, y, d + c), ivs)
      | false, false => some (z_new t (l1 + l2) (h1 + h2) ivs)
    | false => some (z_top t ivs)
  | _, _ => none
theorem z_add_ok {t : Nat} {ivs : List zI} {ρ : List Int} {x y : Nat} {c d z1 z2 r : Int} {out : zV × List zI} (h : z_iv ivs ρ) (h0 : ρ[0]? = some 0) (hv1 : z_v ρ x c z1) (hv2 : z_v ρ y d z2) (hr : (z_lim t).1 ≤ z1 + z2 → z1 + z2 ≤ (z_lim t).2 → r = z1 + z2) (hl : (z_lim t).1 ≤ r ∧ r ≤ (z_lim t).2) (e : z_add t ivs x c y d = some out) : z_R t ρ out r := by
  unfold z_add at e
  split at e
  · rename_i l1 h1 l2 h2 e1 e2
    have b1 := z_b_ok h hv1 e1
    have b2 := z_b_ok h hv2 e2
    split at e
    · rename_i ef
      have f := z_fit_ok ef
      have er : r = z1 + z2 := hr (by omega) (by omega)
      split at e
      · rename_i ey
        have ey := z_beq ey
        subst ey
        cases e
        have := z_v.const h0 hv2
        subst this
        rw [er]
        exact z_R.same h (hv1.add _)
      · rename_i ex
        have ex := z_beq ex
        subst ex
        cases e
        have := z_v.const h0 hv1
        subst this
        rw [er, Int.add_comm z1 z2]
        exact z_R.same h (hv2.add _)
      · cases e
        exact z_new_ok h h0 (by omega) (by omega)
    · cases e
      exact z_top_ok h hl.1 hl.2
  · cases e
def z_sub (t : Nat) (ivs : List zI) (x : Nat) (c : Int) (y : Nat) (d : Int) : Option (zV × List zI) := match z_b ivs x c, z_b ivs y d with
  | some (l1, h1), some (l2, h2) => match z_fit t (l1 - h2) (h1 - l2) with
    | true => match Nat.beq y 0 with
      | true => some ((t, x, c + (0 - d)), ivs)
      | false => some (z_new t (l1 - h2) (h1 - l2) ivs)
    | false => some (z_top t ivs)
  | _, _ => none
theorem z_sub_ok {t : Nat} {ivs : List zI} {ρ : List Int} {x y : Nat} {c d z1 z2 r : Int} {out : zV × List zI} (h : z_iv ivs ρ) (h0 : ρ[0]? = some 0) (hv1 : z_v ρ x c z1) (hv2 : z_v ρ y d z2) (hr : (z_lim t).1 ≤ z1 - z2 → z1 - z2 ≤ (z_lim t).2 → r = z1 - z2) (hl : (z_lim t).1 ≤ r ∧ r ≤ (z_lim t).2) (e : z_sub t ivs x c y d = some out) : z_R t ρ out r := by
  unfold z_sub at e
  split at e
  · rename_i l1 h1 l2 h2 e1 e2
    have b1 := z_b_ok h hv1 e1
    have b2 := z_b_ok h hv2 e2
    split at e
    · rename_i ef
      have f := z_fit_ok ef
      have er : r = z1 - z2 := hr (by omega) (by omega)
      split at e
      · rename_i ey
        have ey := z_beq ey
        subst ey
        cases e
        have := z_v.const h0 hv2
        subst this
        rw [er, show z1 - z2 = z1 + (0 - z2) by omega]
        exact z_R.same h (hv1.add _)
      · cases e
        exact z_new_ok h h0 (by omega) (by omega)
    · cases e
      exact z_top_ok h hl.1 hl.2
  · cases e
theorem z_mul1 {l h z w : Int} (h1 : l ≤ z) (h2 : z ≤ h) : (l * w ≤ z * w ∨ h * w ≤ z * w) ∧ (z * w ≤ l * w ∨ z * w ≤ h * w) := by
  by_cases hw : 0 ≤ w
  · exact ⟨Or.inl (Int.mul_le_mul_of_nonneg_right h1 hw), Or.inr (Int.mul_le_mul_of_nonneg_right h2 hw)⟩
  · have hw : w ≤ 0 := by omega
    exact ⟨Or.inr (Int.mul_le_mul_of_nonpos_right h2 hw), Or.inl (Int.mul_le_mul_of_nonpos_right h1 hw)⟩
theorem z_mul2 {l1 h1 l2 h2 z1 z2 : Int} (a1 : l1 ≤ z1) (a2 : z1 ≤ h1) (b1 : l2 ≤ z2) (b2 : z2 ≤ h2) :
    z_min (z_min (l1 * l2) (l1 * h2)) (z_min (h1 * l2) (h1 * h2)) ≤ z1 * z2 ∧ z1 * z2 ≤ z_max (z_max (l1 * l2) (l1 * h2)) (z_max (h1 * l2) (h1 * h2)) := by
  have p1 := z_mul1 (w := z2) a1 a2
  have q1 := z_mul1 (w := l1) b1 b2
  have q2 := z_mul1 (w := h1) b1 b2
  rw [Int.mul_comm l2 l1, Int.mul_comm z2 l1, Int.mul_comm h2 l1] at q1
  rw [Int.mul_comm l2 h1, Int.mul_comm z2 h1, Int.mul_comm h2 h1] at q2
  have m1 := z_min_l (z_min (l1 * l2) (l1 * h2)) (z_min (h1 * l2) (h1 * h2))
  have m2 := z_min_r (z_min (l1 * l2) (l1 * h2)) (z_min (h1 * l2) (h1 * h2))
  have m3 := z_min_l (l1 * l2) (l1 * h2)
  have m4 := z_min_r (l1 * l2) (l1 * h2)
  have m5 := z_min_l (h1 * l2) (h1 * h2)
  have m6 := z_min_r (h1 * l2) (h1 * h2)
  have n1 := z_max_l (z_max (l1 * l2) (l1 * h2)) (z_max (h1 * l2) (h1 * h2))
  have n2 := z_max_r (z_max (l1 * l2) (l1 * h2)) (z_max (h1 * l2) (h1 * h2))
  have n3 := z_max_l (l1 * l2) (l1 * h2)
  have n4 := z_max_r (l1 * l2) (l1 * h2)
  have n5 := z_max_l (h1 * l2) (h1 * h2)
  have n6 := z_max_r (h1 * l2) (h1 * h2)
  refine ⟨?_, ?_⟩
  · rcases p1.1 with a | a
    · rcases q1.1 with b | b <;> omega
    · rcases q2.1 with b | b <;> omega
  · rcases p1.2 with a | a
    · rcases q1.2 with b | b <;> omega
    · rcases q2.2 with b | b <;> omega
def z_mul (t : Nat) (ivs : List zI) (x : Nat) (c : Int) (y : Nat) (d : Int) : Option (zV × List zI) := match z_b ivs x c, z_b ivs y d with
  | some (l1, h1), some (l2, h2) => some (z_num t (z_min (z_min (l1 * l2) (l1 * h2)) (z_min (h1 * l2) (h1 * h2))) (z_max (z_max (l1 * l2) (l1 * h2)) (z_max (h1 * l2) (h1 * h2))) ivs)
  | _, _ => none
theorem z_mul_ok {t : Nat} {ivs : List zI} {ρ : List Int} {x y : Nat} {c d z1 z2 r : Int} {out : zV × List zI} (h : z_iv ivs ρ) (h0 : ρ[0]? = some 0) (hv1 : z_v ρ x c z1) (hv2 : z_v ρ y d z2) (hr : (z_lim t).1 ≤ z1 * z2 → z1 * z2 ≤ (z_lim t).2 → r = z1 * z2) (hl : (z_lim t).1 ≤ r ∧ r ≤ (z_lim t).2) (e : z_mul t ivs x c y d = some out) : z_R t ρ out r := by
  unfold z_mul at e
  split at e
  · rename_i l1 h1 l2 h2 e1 e2
    have b1 := z_b_ok h hv1 e1
    have b2 := z_b_ok h hv2 e2
    have m := z_mul2 b1.1 b1.2 b2.1 b2.2
    cases e
    refine z_num_ok h h0 hl.1 hl.2 (fun ef => ?_)
    have f := z_fit_ok ef
    have er : r = z1 * z2 := hr (by omega) (by omega)
    rw [er]
    exact m
  · cases e
/-! what a branch tells -/
def z_cut (ivs : List zI) (x : Nat) (lo hi : Int) : Option (List zI) := match ivs[x]? with
  | some (l, h) => match z_ile l h with
    | true => match z_ile (z_max l lo) (z_min h hi) with
      | true => some (ivs.set x (z_max l lo, z_min h hi))
      | false => none
    | false => some ivs
  | none => none
theorem z_cut_ok {ivs : List zI} {ρ : List Int} {x : Nat} {lo hi w : Int} (h : z_iv ivs ρ) (hw : ρ[x]? = some w) (h1 : lo ≤ w) (h2 : w ≤ hi) : ∃ i, z_cut ivs x lo hi = some i ∧ z_iv i ρ := by
  obtain ⟨⟨l, u⟩, h3, h4⟩ := z_F.get' h hw
  dsimp only at h4
  unfold z_cut
  rw [h3]
  dsimp only
  split
  · rename_i e0
    have e0 := z_ile_ok e0
    have h4 : l ≤ w ∧ w ≤ u := by omega
    have a1 : z_max l lo ≤ w := z_max_ge h4.1 h1
    have a2 : w ≤ z_min u hi := z_min_le h4.2 h2
    split
    · refine ⟨_, rfl, ?_⟩
      have k := z_F.set (R := fun (b : zI) (z : Int) => b.2 < b.1 ∨ (b.1 ≤ z ∧ z ≤ b.2)) (a := (z_max l lo, z_min u hi)) (b := w) (Or.inr ⟨a1, a2⟩) h x
      have e : ρ.set x w = ρ := by
        apply List.ext_getElem?
        intro i
        by_cases hi : x = i
        · subst hi
          rw [List.getElem?_set_self (List.getElem?_eq_some_iff.mp hw).1, hw]
        · rw [List.getElem?_set_ne hi]
      rw [e] at k
      exact k
    · rename_i e
      have := z_ile_no e
      omega
  · exact ⟨ivs, rfl, h⟩
/-- w_x + c ≤ w_y + d + k -/
def z_sle (ivs : List zI) (x : Nat) (c : Int) (y : Nat) (d k : Int) : List (List zI) := match Nat.beq x y with
  | true => match z_ile c (d + k) with
    | true => [ivs]
    | false => []
  | false => match z_b ivs x 0, z_b ivs y 0 with
    | some (lx, _), some (_, hy) => match z_cut ivs x lx (hy + d + k - c) with
      | none => []
      | some i1 => match z_cut i1 y (lx + c - d - k) hy with
        | none => []
        | some i2 => [i2]
    | _, _ => [ivs]
theorem z_sle_ok {ivs : List zI} {ρ : List Int} {x y : Nat} {c d k X Y : Int} (h : z_iv ivs ρ) (hx : z_v ρ x c X) (hy : z_v ρ y d Y) (hle : X ≤ Y + k) : ∃ i ∈ z_sle ivs x c y d k, z_iv i ρ := by
  obtain ⟨wx, h1, h2⟩ := hx
  obtain ⟨wy, h3, h4⟩ := hy
  unfold z_sle
  split
  · rename_i e
    have e := z_beq e
    subst e
    rw [h1] at h3
    cases h3
    split
    · exact ⟨ivs, List.mem_singleton.mpr rfl, h⟩
    · rename_i e
      have := z_ile_no e
      omega
  · split
    · rename_i lx hx ly hy e1 e2
      have g2 := z_b_ok h (⟨wx, h1, by omega⟩ : z_v ρ x 0 wx) e1
      have g4 := z_b_ok h (⟨wy, h3, by omega⟩ : z_v ρ y 0 wy) e2
      obtain ⟨i1, k1, k2⟩ := z_cut_ok (lo := lx) (hi := hy + d + k - c) h h1 (by omega) (by omega)
      obtain ⟨i2, k3, k4⟩ := z_cut_ok (lo := lx + c - d - k) (hi := hy) k2 h3 (by omega) (by omega)
      rw [k1]
      dsimp only
      rw [k3]
      exact ⟨i2, List.mem_singleton.mpr rfl, k4⟩
    · exact ⟨ivs, List.mem_singleton.mpr rfl, h⟩
def z_hd (cd : Jvm.ClassFile.Cond) (X Y : Int) : Prop := match cd with
  | .eq => X = Y
  | .ne => X ≠ Y
  | .lt => X < Y
  | .ge => Y ≤ X
  | .gt => Y < X
  | .le => X ≤ Y
def z_neg (cd : Jvm.ClassFile.Cond) : Jvm.ClassFile.Cond := match cd with
  | .eq => .ne
  | .ne => .eq
  | .lt => .ge
  | .ge => .lt
  | .gt => .le
  | .le => .gt
theorem z_hd_or (cd : Jvm.ClassFile.Cond) (X Y : Int) : z_hd cd X Y ∨ z_hd (z_neg cd) X Y := by
  cases cd <;> simp only [z_hd, z_neg] <;> omega
def z_asm (both : Bool) (cd : Jvm.ClassFile.Cond) (ivs : List zI) (x : Nat) (c : Int) (y : Nat) (d : Int) : List (List zI) := match cd with
  | .le => z_sle ivs x c y d 0
  | .lt => z_sle ivs x c y d (-1)
  | .ge => z_sle ivs y d x c 0
  | .gt => z_sle ivs y d x c (-1)
  | .eq => (z_sle ivs x c y d 0).flatMap (fun i => z_sle i y d x c 0)
  | .ne => match z_sle ivs x c y d (-1), z_sle ivs y d x c (-1) with
    | [], b => b
    | a, [] => a
    | a, b => match both with
      | true => a ++ b
      | false => [ivs]
theorem z_asm_ok {both : Bool} {cd : Jvm.ClassFile.Cond} {ivs : List zI} {ρ : List Int} {x y : Nat} {c d X Y : Int} (h : z_iv ivs ρ) (hx : z_v ρ x c X) (hy : z_v ρ y d Y) (hc : z_hd cd X Y) : ∃ i ∈ z_asm both cd ivs x c y d, z_iv i ρ := by
  cases cd with
  | le => exact z_sle_ok h hx hy (by have : X ≤ Y := hc; omega)
  | lt => exact z_sle_ok h hx hy (by have : X < Y := hc; omega)
  | ge => exact z_sle_ok h hy hx (by have : Y ≤ X := hc; omega)
  | gt => exact z_sle_ok h hy hx (by have : Y < X := hc; omega)
  | eq =>
    have e : X = Y := hc
    obtain ⟨i, h1, h2⟩ := z_sle_ok (k := 0) h hx hy (by omega)
    obtain ⟨j, h3, h4⟩ := z_sle_ok (k := 0) h2 hy hx (by omega)
    exact ⟨j, List.mem_flatMap.mpr ⟨i, h1, h3⟩, h4⟩
  | ne =>
    have e : X ≠ Y := hc
    unfold z_asm
    dsimp only
    rcases Int.lt_or_gt_of_ne e with q | q
    · obtain ⟨i, h1, h2⟩ := z_sle_ok (k := -1) h hx hy (by omega)
      split
      · rename_i e1
        rw [e1] at h1
        cases h1
      · exact ⟨i, h1, h2⟩
      · split
        · exact ⟨i, List.mem_append_left _ h1, h2⟩
        · exact ⟨ivs, List.mem_singleton.mpr rfl, h⟩
    · obtain ⟨i, h1, h2⟩ := z_sle_ok (k := -1) h hy hx (by omega)
      split
      · exact ⟨i, h1, h2⟩
      · rename_i e1 _
        rw [e1] at h1
        cases h1
      · split
        · exact ⟨i, List.mem_append_right _ h1, h2⟩
        · exact ⟨ivs, List.mem_singleton.mpr rfl, h⟩
end
section
/-! ===== the checker's steps: plain instructions ===== -/
def z_K (p : Program) (l : Launch) (e : Env) (R : Room) (s : State) (m : MethodId) (args : Array Value) (below : List Frame) (meth : Method) (c : Code) (Q : State → Prop) (D : va_G) (cl : List vw_C) (tys : List (ClassId × FieldType)) (A : Nat → Prop) (H0 : Heap) (nL : Nat) (ρ0 : List Int) (ad0 : List Nat) (pc : Nat) (S : zS) : Prop :=
  ∀ (ρ : List Int) (ws : va_W) (lv : List (Nat × Value)) (st : List Value) (H : Heap) (locs : List Loc) (ls : Array Slot), z_g D cl tys A H0 nL ρ0 ad0 S ρ ws lv st H locs ls → W p l e R s m args below meth c H locs S.2.2.2.2.1 S.2.2.2.2.2 Q (F0 m pc ls st)
abbrev zQ : Type := Option (List (Nat × zS))
theorem z_F.c1 {α β : Type} {R : α → β → Prop} {a : α} {l : List α} : ∀ {k : List β}, z_F R (a :: l) k → ∃ b k', k = b :: k' ∧ R a b ∧ z_F R l k'
  | [], h => h.elim
  | b :: k', h => ⟨b, k', rfl, h.1, h.2⟩
theorem z_F.c2 {α β : Type} {R : α → β → Prop} {a a2 : α} {l : List α} : ∀ {k : List β}, z_F R (a :: a2 :: l) k → ∃ b b2 k', k = b :: b2 :: k' ∧ R a b ∧ R a2 b2 ∧ z_F R l k'
  | [], h => h.elim
  | [_], h => h.2.elim
  | b :: b2 :: k', h => ⟨b, b2, k', rfl, h.1, h.2.1, h.2.2⟩
theorem z_F.c3 {α β : Type} {R : α → β → Prop} {a a2 a3 : α} {l : List α} : ∀ {k : List β}, z_F R (a :: a2 :: a3 :: l) k → ∃ b b2 b3 k', k = b :: b2 :: b3 :: k' ∧ R a b ∧ R a2 b2 ∧ R a3 b3 ∧ z_F R l k'
  | [], h => h.elim
  | [_], h => h.2.elim
  | [_, _], h => h.2.2.elim
  | b :: b2 :: b3 :: k', h => ⟨b, b2, b3, k', rfl, h.1, h.2.1, h.2.2.1, h.2.2.2⟩
def z_lk (lo : List (Nat × zV)) (i : Nat) : Option zV := match lo with
  | [] => none
  | (j, a) :: lo => match Nat.beq j i with
    | true => some a
    | false => z_lk lo i
theorem z_lk_ok {ρ : List Int} {ad : List Nat} {i : Nat} {a : zV} : ∀ {lo : List (Nat × zV)} {lv : List (Nat × Value)}, z_F (z_Lo ρ ad) lo lv → z_lk lo i = some a → ∃ (k : Nat) (v : Value), lv[k]? = some (i, v) ∧ z_m ρ ad a v
  | [], _, _, h => by cases h
  | (j, b) :: lo, [], hF, _ => hF.elim
  | (j, b) :: lo, q :: lv, hF, h => by
    unfold z_lk at h
    split at h
    · rename_i e
      have e := z_beq e
      subst e
      cases h
      obtain ⟨⟨h1, h2⟩, -⟩ := hF
      obtain ⟨q1, q2⟩ := q
      dsimp only at h1 h2
      subst h1
      exact ⟨0, q2, rfl, h2⟩
    · obtain ⟨k, v, h1, h2⟩ := z_lk_ok hF.2 h
      exact ⟨k + 1, v, by rw [List.getElem?_cons_succ]; exact h1, h2⟩
def z_st1 (lo : List (Nat × zV)) (i : Nat) (a : zV) : List (Nat × zV) := (i, a) :: lo.filter (fun q => !(q.1 == i) && !(q.1 + 1 == i && q.2.1 == 1))
def z_st2 (lo : List (Nat × zV)) (i : Nat) (a : zV) : List (Nat × zV) := (i, a) :: lo.filter (fun q => !(q.1 == i) && (!(q.1 == i + 1) && !(q.1 + 1 == i && q.2.1 == 1)))
theorem z_st1_ok {ρ : List Int} {ad : List Nat} {i : Nat} {a : zV} {v : Value} {lo : List (Nat × zV)} {lv : List (Nat × Value)} (hF : z_F (z_Lo ρ ad) lo lv) (hv : z_m ρ ad a v) : z_F (z_Lo ρ ad) (z_st1 lo i a) ((i, v) :: lv.filter (fun q => !(q.1 == i) && !(q.1 + 1 == i && q.2.category == 2))) := by
  refine ⟨⟨rfl, hv⟩, z_F.filter (fun x y h => ?_) hF⟩
  obtain ⟨h1, h2⟩ := h
  rw [h1, z_m.cat h2]
theorem z_st2_ok {ρ : List Int} {ad : List Nat} {i : Nat} {a : zV} {v : Value} {lo : List (Nat × zV)} {lv : List (Nat × Value)} (hF : z_F (z_Lo ρ ad) lo lv) (hv : z_m ρ ad a v) : z_F (z_Lo ρ ad) (z_st2 lo i a) ((i, v) :: lv.filter (fun q => !(q.1 == i) && (!(q.1 == i + 1) && !(q.1 + 1 == i && q.2.category == 2)))) := by
  refine ⟨⟨rfl, hv⟩, z_F.filter (fun x y h => ?_) hF⟩
  obtain ⟨h1, h2⟩ := h
  rw [h1, z_m.cat h2]
section ZA
variable {p : Program} {l : Launch} {e : Env} {R : Room} {s : State} {m : MethodId} {args : Array Value} {below : List Frame} {meth : Method} {c : Code} {Q : State → Prop} {D : va_G} {cl : List vw_C} {tys : List (ClassId × FieldType)} {A : Nat → Prop} {H0 : Heap} {nL : Nat} {ρ0 : List Int} {ad0 : List Nat}
variable {cc : ByteArray} {pc : Nat} {ivs : List zI} {lo : List (Nat × zV)} {sk : List zV} {hp : List zC} {nc ns : Nat} {q : List (Nat × zS)}
variable {ρ : List Int} {ws : va_W} {lv : List (Nat × Value)} {st st' : List Value} {H : Heap} {locs : List Loc} {ls : Array Slot} {sk' : List zV}
theorem z_g.stk (h : z_g D cl tys A H0 nL ρ0 ad0 (ivs, lo, sk, hp, nc, ns) ρ ws lv st H locs ls) (hs : z_F (z_m ρ (z_ad ws)) sk' st') : z_g D cl tys A H0 nL ρ0 ad0 (ivs, lo, sk', hp, nc, ns) ρ ws lv st' H locs ls := by
  obtain ⟨a, b1, b3, b4, b5, b6⟩ := h
  exact ⟨a, b1, b3, hs, b5, b6⟩
theorem z_g.zero {S : zS} (h : z_g D cl tys A H0 nL ρ0 ad0 S ρ ws lv st H locs ls) : ρ[0]? = some 0 := h.1.2.2
theorem z_g.xiv (h : z_g D cl tys A H0 nL ρ0 ad0 (ivs, lo, sk, hp, nc, ns) ρ ws lv st H locs ls) : z_iv ivs ρ := h.2.1
theorem z_g.xlo (h : z_g D cl tys A H0 nL ρ0 ad0 (ivs, lo, sk, hp, nc, ns) ρ ws lv st H locs ls) : z_F (z_Lo ρ (z_ad ws)) lo lv := h.2.2.1
theorem z_g.xsk (h : z_g D cl tys A H0 nL ρ0 ad0 (ivs, lo, sk, hp, nc, ns) ρ ws lv st H locs ls) : z_F (z_m ρ (z_ad ws)) sk st := h.2.2.2.1
theorem z_g.xhp (h : z_g D cl tys A H0 nL ρ0 ad0 (ivs, lo, sk, hp, nc, ns) ρ ws lv st H locs ls) : z_F (z_H tys ρ (z_ad ws)) hp ws := h.2.2.2.2.1
theorem z_g.xP {S : zS} (h : z_g D cl tys A H0 nL ρ0 ad0 S ρ ws lv st H locs ls) : va_P D cl ws H := h.2.2.2.2.2.1
theorem z_g.xD {S : zS} (h : z_g D cl tys A H0 nL ρ0 ad0 S ρ ws lv st H locs ls) : va_D A ws := h.2.2.2.2.2.2.1
theorem z_g.xS {S : zS} (h : z_g D cl tys A H0 nL ρ0 ad0 S ρ ws lv st H locs ls) : va_S A H0 H locs := h.2.2.2.2.2.2.2.1
theorem z_g.xL {S : zS} (h : z_g D cl tys A H0 nL ρ0 ad0 S ρ ws lv st H locs ls) : lv_has ls nL lv := h.2.2.2.2.2.2.2.2
theorem z_g.loc {lo' : List (Nat × zV)} {lv' : List (Nat × Value)} {ls' : Array Slot} (h : z_g D cl tys A H0 nL ρ0 ad0 (ivs, lo, sk, hp, nc, ns) ρ ws lv st H locs ls) (hs : z_F (z_Lo ρ (z_ad ws)) lo' lv') (hl : lv_has ls' nL lv') : z_g D cl tys A H0 nL ρ0 ad0 (ivs, lo', sk, hp, nc, ns) ρ ws lv' st H locs ls' := by
  obtain ⟨a, b1, b3, b4, b5, b6, b7, b8, b9⟩ := h
  exact ⟨a, b1, hs, b4, b5, b6, b7, b8, hl⟩
/-- constants -/
def z_psh (a : zV) (pc : Nat) (ivs : List zI) (lo : List (Nat × zV)) (sk : List zV) (hp : List zC) (nc ns : Nat) : zQ := some [(pc, (ivs, lo, a :: sk, hp, nc, ns))]
theorem zs_psh {a : zV} {n : Nat} {v : Value} (hv : ∀ ρ : List Int, ρ[0]? = some 0 → ∀ ad, z_m ρ ad a v) (row : ∀ (H : Heap) (locs : List Loc) (ls : Array Slot) (rest : List Value), W p l e R s m args below meth c H locs nc ns Q (F0 m n ls (v :: rest)) → W p l e R s m args below meth c H locs nc ns Q (F0 m pc ls rest))
    (h : z_psh a n ivs lo sk hp nc ns = some q) (k : ∀ z ∈ q, z_K p l e R s m args below meth c Q D cl tys A H0 nL ρ0 ad0 z.1 z.2) : z_K p l e R s m args below meth c Q D cl tys A H0 nL ρ0 ad0 pc (ivs, lo, sk, hp, nc, ns) := by
  cases h
  intro ρ ws lv st H locs ls hg
  exact row H locs ls st (k _ (List.mem_singleton.mpr rfl) ρ ws lv (v :: st) H locs ls (hg.stk ⟨hv ρ hg.zero _, hg.xsk⟩))
/-- a local's value -/
def z_ld (t : Nat) (i : Nat) (pc : Nat) (ivs : List zI) (lo : List (Nat × zV)) (sk : List zV) (hp : List zC) (nc ns : Nat) : zQ := match z_lk lo i with
  | some a => match Nat.beq a.1 t with
    | true => some [(pc, (ivs, lo, a :: sk, hp, nc, ns))]
    | false => none
  | none => none
theorem zs_ld {t i n : Nat} (row : ∀ (H : Heap) (locs : List Loc) (ls : Array Slot) (rest : List Value) (v : Value), (∃ ρ ad x y, z_m ρ ad (t, x, y) v) → ls[i]? = some (.val v) → W p l e R s m args below meth c H locs nc ns Q (F0 m n ls (v :: rest)) → W p l e R s m args below meth c H locs nc ns Q (F0 m pc ls rest))
    (h : z_ld t i n ivs lo sk hp nc ns = some q) (k : ∀ z ∈ q, z_K p l e R s m args below meth c Q D cl tys A H0 nL ρ0 ad0 z.1 z.2) : z_K p l e R s m args below meth c Q D cl tys A H0 nL ρ0 ad0 pc (ivs, lo, sk, hp, nc, ns) := by
  unfold z_ld at h
  split at h
  · rename_i a ea
    split at h
    · rename_i et
      have et := z_beq et
      cases h
      intro ρ ws lv st H locs ls hg
      obtain ⟨kk, v, h1, h2⟩ := z_lk_ok hg.xlo ea
      refine row H locs ls st v ?_ (lv_at hg.xL kk h1) (k _ (List.mem_singleton.mpr rfl) ρ ws lv (v :: st) H locs ls (hg.stk ⟨h2, hg.xsk⟩))
      subst et
      exact ⟨ρ, _, a.2.1, a.2.2, h2⟩
    · cases h
  · cases h
/-- a store of one word -/
def z_sto (t : Nat) (nL : Nat) (i : Nat) (pc : Nat) (ivs : List zI) (lo : List (Nat × zV)) (sk : List zV) (hp : List zC) (nc ns : Nat) : zQ := match sk with
  | a :: sk => match Nat.beq a.1 t && Nat.ble (i + 1) nL with
    | true => some [(pc, (ivs, z_st1 lo i a, sk, hp, nc, ns))]
    | false => none
  | [] => none
theorem zs_sto {t i n : Nat} (row : ∀ (H : Heap) (locs : List Loc) (ls : Array Slot) (rest : List Value) (v : Value) (lv : List (Nat × Value)), (∃ ρ ad x y, z_m ρ ad (t, x, y) v) → lv_has ls nL lv → i < nL → (∀ ls' : Array Slot, lv_has ls' nL ((i, v) :: lv.filter (fun q => !(q.1 == i) && !(q.1 + 1 == i && q.2.category == 2))) → W p l e R s m args below meth c H locs nc ns Q (F0 m n ls' rest)) → W p l e R s m args below meth c H locs nc ns Q (F0 m pc ls (v :: rest)))
    (h : z_sto t nL i n ivs lo sk hp nc ns = some q) (k : ∀ z ∈ q, z_K p l e R s m args below meth c Q D cl tys A H0 nL ρ0 ad0 z.1 z.2) : z_K p l e R s m args below meth c Q D cl tys A H0 nL ρ0 ad0 pc (ivs, lo, sk, hp, nc, ns) := by
  unfold z_sto at h
  split at h
  · rename_i a sk
    split at h
    · rename_i et
      have e1 := z_beq (z_and et).1
      have e2 := Nat.le_of_ble_eq_true (z_and et).2
      cases h
      intro ρ ws lv st H locs ls hg
      obtain ⟨v, st, rfl, hv, hs⟩ := hg.xsk.c1
      refine row H locs ls st v lv ?_ hg.xL e2 (fun ls' hl => k _ (List.mem_singleton.mpr rfl) ρ ws _ st H locs ls' ((hg.stk hs).loc (z_st1_ok hg.xlo hv) hl))
      subst e1
      exact ⟨ρ, _, a.2.1, a.2.2, hv⟩
    · cases h
  · cases h
/-- a store of a long -/
def z_sto2 (nL : Nat) (i : Nat) (pc : Nat) (ivs : List zI) (lo : List (Nat × zV)) (sk : List zV) (hp : List zC) (nc ns : Nat) : zQ := match sk with
  | a :: sk => match Nat.beq a.1 1 && Nat.ble (i + 2) nL with
    | true => some [(pc, (ivs, z_st2 lo i a, sk, hp, nc, ns))]
    | false => none
  | [] => none
theorem zs_sto2 {i n : Nat} (row : ∀ (H : Heap) (locs : List Loc) (ls : Array Slot) (rest : List Value) (v : Int64) (lv : List (Nat × Value)), lv_has ls nL lv → i + 1 < nL → (∀ ls' : Array Slot, lv_has ls' nL ((i, .long v) :: lv.filter (fun q => !(q.1 == i) && (!(q.1 == i + 1) && !(q.1 + 1 == i && q.2.category == 2)))) → W p l e R s m args below meth c H locs nc ns Q (F0 m n ls' rest)) → W p l e R s m args below meth c H locs nc ns Q (F0 m pc ls (.long v :: rest)))
    (h : z_sto2 nL i n ivs lo sk hp nc ns = some q) (k : ∀ z ∈ q, z_K p l e R s m args below meth c Q D cl tys A H0 nL ρ0 ad0 z.1 z.2) : z_K p l e R s m args below meth c Q D cl tys A H0 nL ρ0 ad0 pc (ivs, lo, sk, hp, nc, ns) := by
  unfold z_sto2 at h
  split at h
  · rename_i a sk
    obtain ⟨t, x, y⟩ := a
    split at h
    · rename_i et
      have e1 : t = 1 := z_beq (z_and et).1
      have e2 := Nat.le_of_ble_eq_true (z_and et).2
      subst e1
      cases h
      intro ρ ws lv st H locs ls hg
      obtain ⟨v, st, rfl, hv, hs⟩ := hg.xsk.c1
      obtain ⟨i64, rfl, -⟩ := id hv
      exact row H locs ls st i64 lv hg.xL (by omega) (fun ls' hl => k _ (List.mem_singleton.mpr rfl) ρ ws _ st H locs ls' ((hg.stk hs).loc (z_st2_ok hg.xlo hv) hl))
    · cases h
  · cases h
/-- iinc -/
def z_inc (nL : Nat) (i : Nat) (n : Int) (pc : Nat) (ivs : List zI) (lo : List (Nat × zV)) (sk : List zV) (hp : List zC) (nc ns : Nat) : zQ := match z_lk lo i with
  | some (0, x, c) => match Nat.ble (i + 1) nL with
    | true => match z_add 0 ivs x c 0 n with
      | some (r, ivs') => some [(pc, (ivs', z_st1 lo i r, sk, hp, nc, ns))]
      | none => none
    | false => none
  | _ => none
theorem z_m.ofR {ρ : List Int} {ad : List Nat} {out : zV × List zI} {i : Int32} {ρ' : List Int} (h1 : out.1.1 = 0) (h2 : z_v ρ' out.1.2.1 out.1.2.2 i.toInt) : z_m ρ' ad out.1 (.int i) := by
  obtain ⟨⟨t, x, y⟩, o⟩ := out
  dsimp only at h1 h2
  subst h1
  exact ⟨i, rfl, h2⟩
theorem z_m.ofRL {ρ : List Int} {ad : List Nat} {out : zV × List zI} {i : Int64} {ρ' : List Int} (h1 : out.1.1 = 1) (h2 : z_v ρ' out.1.2.1 out.1.2.2 i.toInt) : z_m ρ' ad out.1 (.long i) := by
  obtain ⟨⟨t, x, y⟩, o⟩ := out
  dsimp only at h1 h2
  subst h1
  exact ⟨i, rfl, h2⟩
theorem z_rng (x : Int32) : (z_lim 0).1 ≤ x.toInt ∧ x.toInt ≤ (z_lim 0).2 := by
  have h1 := Int32.le_toInt x
  have h2 := Int32.toInt_lt x
  show (-2147483648 : Int) ≤ _ ∧ _ ≤ (2147483647 : Int)
  omega
theorem z_rngL (x : Int64) : (z_lim 1).1 ≤ x.toInt ∧ x.toInt ≤ (z_lim 1).2 := by
  have h1 := Int64.le_toInt x
  have h2 := Int64.toInt_lt x
  show (-9223372036854775808 : Int) ≤ _ ∧ _ ≤ (9223372036854775807 : Int)
  omega
theorem z_bm {z : Int} (h1 : (z_lim 0).1 ≤ z) (h2 : z ≤ (z_lim 0).2) : z.bmod (2 ^ 32) = z := by
  have h1 : (-2147483648 : Int) ≤ z := h1
  have h2 : z ≤ (2147483647 : Int) := h2
  rw [Int.bmod_eq_of_le (by omega) (by omega)]
theorem z_bmL {z : Int} (h1 : (z_lim 1).1 ≤ z) (h2 : z ≤ (z_lim 1).2) : z.bmod (2 ^ 64) = z := by
  have h1 : (-9223372036854775808 : Int) ≤ z := h1
  have h2 : z ≤ (9223372036854775807 : Int) := h2
  rw [Int.bmod_eq_of_le (by omega) (by omega)]
theorem zs_inc {i n : Nat} {d : Int} (hd : (z_lim 0).1 ≤ d ∧ d ≤ (z_lim 0).2) (row : ∀ (H : Heap) (locs : List Loc) (ls : Array Slot) (rest : List Value) (x : Int32) (kk : Nat) (lv : List (Nat × Value)), lv_has ls nL lv → lv[kk]? = some (i, .int x) → i < nL → (∀ ls' : Array Slot, lv_has ls' nL ((i, .int (x + Int32.ofInt d)) :: lv.filter (fun q => !(q.1 == i) && !(q.1 + 1 == i && q.2.category == 2))) → W p l e R s m args below meth c H locs nc ns Q (F0 m n ls' rest)) → W p l e R s m args below meth c H locs nc ns Q (F0 m pc ls rest))
    (h : z_inc nL i d n ivs lo sk hp nc ns = some q) (k : ∀ z ∈ q, z_K p l e R s m args below meth c Q D cl tys A H0 nL ρ0 ad0 z.1 z.2) : z_K p l e R s m args below meth c Q D cl tys A H0 nL ρ0 ad0 pc (ivs, lo, sk, hp, nc, ns) := by
  unfold z_inc at h
  split at h
  · rename_i x y ea
    split at h
    · rename_i et
      have e2 := Nat.le_of_ble_eq_true et
      split at h
      · rename_i r ivs' er
        cases h
        intro ρ ws lv st H locs ls hg
        obtain ⟨kk, v, h1, h2⟩ := z_lk_ok hg.xlo ea
        obtain ⟨i32, rfl, hv⟩ := h2
        have ed : (Int32.ofInt d).toInt = d := by rw [Int32.toInt_ofInt, z_bm hd.1 hd.2]
        obtain ⟨r1, ρ', g1, g2, g3⟩ := z_add_ok (r := (i32 + Int32.ofInt d).toInt) hg.xiv hg.zero hv (z_v.of0 hg.zero d) (fun a b => by rw [Int32.toInt_add, ed, z_bm a b]) (z_rng _) er
        have hg' := hg.more g1 g2
        exact row H locs ls st i32 kk lv hg.xL h1 e2 (fun ls' hl => k _ (List.mem_singleton.mpr rfl) ρ' ws _ st H locs ls' (hg'.loc (z_st1_ok hg'.xlo (z_m.ofR (ρ := ρ) (out := (r, ivs')) r1 g3)) hl))
      · cases h
    · cases h
  · cases h
/-- two ints, one int -/
def z_bin (t : Nat) (op : List zI → Nat → Int → Nat → Int → Option (zV × List zI)) (pc : Nat) (ivs : List zI) (lo : List (Nat × zV)) (sk : List zV) (hp : List zC) (nc ns : Nat) : zQ := match sk with
  | (t2, y, d) :: (t1, x, c) :: sk => match Nat.beq t1 t && Nat.beq t2 t with
    | true => match op ivs x c y d with
      | some (r, ivs') => some [(pc, (ivs', lo, r :: sk, hp, nc, ns))]
      | none => none
    | false => none
  | _ => none
theorem zs_bin {n : Nat} {op : List zI → Nat → Int → Nat → Int → Option (zV × List zI)} {f : Int32 → Int32 → Int32} {G : Int32 → Prop}
    (hop : ∀ (ivs : List zI) (ρ : List Int) (x : Nat) (c : Int) (y : Nat) (d : Int) (X Y : Int32) (out : zV × List zI), z_iv ivs ρ → ρ[0]? = some 0 → z_v ρ x c X.toInt → z_v ρ y d Y.toInt → op ivs x c y d = some out → G Y ∧ z_R 0 ρ out (f X Y).toInt)
    (row : ∀ (H : Heap) (locs : List Loc) (ls : Array Slot) (rest : List Value) (x y : Int32), G y → W p l e R s m args below meth c H locs nc ns Q (F0 m n ls (.int (f x y) :: rest)) → W p l e R s m args below meth c H locs nc ns Q (F0 m pc ls (.int y :: .int x :: rest)))
    (h : z_bin 0 op n ivs lo sk hp nc ns = some q) (k : ∀ z ∈ q, z_K p l e R s m args below meth c Q D cl tys A H0 nL ρ0 ad0 z.1 z.2) : z_K p l e R s m args below meth c Q D cl tys A H0 nL ρ0 ad0 pc (ivs, lo, sk, hp, nc, ns) := by
  unfold z_bin at h
  split at h
  · rename_i t2 y d t1 x c0 sk
    split at h
    · rename_i et
      have e1 := z_beq (z_and et).1
      have e2 := z_beq (z_and et).2
      subst e1
      subst e2
      split at h
      · rename_i r ivs' er
        cases h
        intro ρ ws lv st H locs ls hg
        obtain ⟨v2, v1, st, rfl, hv2, hv1, hs⟩ := hg.xsk.c2
        obtain ⟨Y, rfl, hY⟩ := hv2
        obtain ⟨X, rfl, hX⟩ := hv1
        obtain ⟨hG, r1, ρ', g1, g2, g3⟩ := hop ivs ρ x c0 y d X Y _ hg.xiv hg.zero hX hY er
        have hg' := (hg.stk hs).more g1 g2
        exact row H locs ls st X Y hG (k _ (List.mem_singleton.mpr rfl) ρ' ws lv _ H locs ls (hg'.stk ⟨z_m.ofR (ρ := ρ) (out := (r, ivs')) r1 g3, hg'.xsk⟩))
      · cases h
    · cases h
  · cases h
/-- two longs, one long -/
theorem zs_binL {n : Nat} {op : List zI → Nat → Int → Nat → Int → Option (zV × List zI)} {f : Int64 → Int64 → Int64} {G : Int64 → Prop}
    (hop : ∀ (ivs : List zI) (ρ : List Int) (x : Nat) (c : Int) (y : Nat) (d : Int) (X Y : Int64) (out : zV × List zI), z_iv ivs ρ → ρ[0]? = some 0 → z_v ρ x c X.toInt → z_v ρ y d Y.toInt → op ivs x c y d = some out → G Y ∧ z_R 1 ρ out (f X Y).toInt)
    (row : ∀ (H : Heap) (locs : List Loc) (ls : Array Slot) (rest : List Value) (x y : Int64), G y → W p l e R s m args below meth c H locs nc ns Q (F0 m n ls (.long (f x y) :: rest)) → W p l e R s m args below meth c H locs nc ns Q (F0 m pc ls (.long y :: .long x :: rest)))
    (h : z_bin 1 op n ivs lo sk hp nc ns = some q) (k : ∀ z ∈ q, z_K p l e R s m args below meth c Q D cl tys A H0 nL ρ0 ad0 z.1 z.2) : z_K p l e R s m args below meth c Q D cl tys A H0 nL ρ0 ad0 pc (ivs, lo, sk, hp, nc, ns) := by
  unfold z_bin at h
  split at h
  · rename_i t2 y d t1 x c0 sk
    split at h
    · rename_i et
      have e1 := z_beq (z_and et).1
      have e2 := z_beq (z_and et).2
      subst e1
      subst e2
      split at h
      · rename_i r ivs' er
        cases h
        intro ρ ws lv st H locs ls hg
        obtain ⟨v2, v1, st, rfl, hv2, hv1, hs⟩ := hg.xsk.c2
        obtain ⟨Y, rfl, hY⟩ := hv2
        obtain ⟨X, rfl, hX⟩ := hv1
        obtain ⟨hG, r1, ρ', g1, g2, g3⟩ := hop ivs ρ x c0 y d X Y _ hg.xiv hg.zero hX hY er
        have hg' := (hg.stk hs).more g1 g2
        exact row H locs ls st X Y hG (k _ (List.mem_singleton.mpr rfl) ρ' ws lv _ H locs ls (hg'.stk ⟨z_m.ofRL (ρ := ρ) (out := (r, ivs')) r1 g3, hg'.xsk⟩))
      · cases h
    · cases h
  · cases h
/-- one number, one number -/
def z_un (t t' : Nat) (op : List zI → Nat → Int → Option (zV × List zI)) (pc : Nat) (ivs : List zI) (lo : List (Nat × zV)) (sk : List zV) (hp : List zC) (nc ns : Nat) : zQ := match sk with
  | (t1, x, c) :: sk => match Nat.beq t1 t with
    | true => match op ivs x c with
      | some (r, ivs') => match Nat.beq r.1 t' with
        | true => some [(pc, (ivs', lo, r :: sk, hp, nc, ns))]
        | false => none
      | none => none
    | false => none
  | _ => none
/-- what a number is, of its kind -/
def z_nv (t : Nat) (v : Value) (z : Int) : Prop := match t with
  | 0 => ∃ i : Int32, v = .int i ∧ i.toInt = z
  | 1 => ∃ i : Int64, v = .long i ∧ i.toInt = z
  | _ => False
theorem z_m.nv {ρ : List Int} {ad : List Nat} {t x : Nat} {c z : Int} {v : Value} (h : z_nv t v z) (hv : z_v ρ x c z) : z_m ρ ad (t, x, c) v := by
  unfold z_nv at h
  split at h
  · obtain ⟨i, rfl, rfl⟩ := h
    exact ⟨i, rfl, hv⟩
  · obtain ⟨i, rfl, rfl⟩ := h
    exact ⟨i, rfl, hv⟩
  · exact h.elim
theorem z_m.num {ρ : List Int} {ad : List Nat} {t x : Nat} {c : Int} {v : Value} (ht : t < 2) (h : z_m ρ ad (t, x, c) v) : ∃ z, z_nv t v z ∧ z_v ρ x c z := by
  match t, ht, h with
  | 0, _, h =>
    obtain ⟨i, rfl, hv⟩ := h
    exact ⟨_, ⟨i, rfl, rfl⟩, hv⟩
  | 1, _, h =>
    obtain ⟨i, rfl, hv⟩ := h
    exact ⟨_, ⟨i, rfl, rfl⟩, hv⟩
theorem zs_un {n t t' : Nat} {op : List zI → Nat → Int → Option (zV × List zI)} (ht : t < 2)
    (hop : ∀ (ivs : List zI) (ρ : List Int) (x : Nat) (cx : Int) (v : Value) (z : Int) (out : zV × List zI), z_iv ivs ρ → ρ[0]? = some 0 → z_v ρ x cx z → z_nv t v z → op ivs x cx = some out → ∃ (v' : Value) (z' : Int), z_nv t' v' z' ∧ z_R out.1.1 ρ out z' ∧
      ∀ (H : Heap) (locs : List Loc) (ls : Array Slot) (rest : List Value), W p l e R s m args below meth c H locs nc ns Q (F0 m n ls (v' :: rest)) → W p l e R s m args below meth c H locs nc ns Q (F0 m pc ls (v :: rest)))
    (h : z_un t t' op n ivs lo sk hp nc ns = some q) (k : ∀ z ∈ q, z_K p l e R s m args below meth c Q D cl tys A H0 nL ρ0 ad0 z.1 z.2) : z_K p l e R s m args below meth c Q D cl tys A H0 nL ρ0 ad0 pc (ivs, lo, sk, hp, nc, ns) := by
  unfold z_un at h
  split at h
  · rename_i t1 x c1 sk
    split at h
    · rename_i et
      have e1 := z_beq et
      subst e1
      split at h
      · rename_i r ivs' er
        split at h
        · rename_i er1
          have er1 := z_beq er1
          cases h
          intro ρ ws lv st H locs ls hg
          obtain ⟨v1, st, rfl, hv1, hs⟩ := hg.xsk.c1
          obtain ⟨z, hz1, hz2⟩ := hv1.num ht
          obtain ⟨v', z', hn, ⟨-, ρ', g1, g2, g3⟩, row⟩ := hop ivs ρ x c1 v1 z _ hg.xiv hg.zero hz2 hz1 er
          have hg' := (hg.stk hs).more g1 g2
          refine row H locs ls st (k _ (List.mem_singleton.mpr rfl) ρ' ws lv _ H locs ls (hg'.stk ⟨?_, hg'.xsk⟩))
          obtain ⟨r1, r2, r3⟩ := r
          dsimp only at er1 g3
          subst er1
          exact z_m.nv hn g3
        · cases h
      · cases h
    · cases h
  · cases h
/-- branches on two ints -/
def z_go (ps : List (List zI)) (pc : Nat) (lo : List (Nat × zV)) (sk : List zV) (hp : List zC) (nc ns : Nat) : List (Nat × zS) := ps.map (fun i => (pc, (i, lo, sk, hp, nc, ns)))
def z_br2 (t : Nat) (both : Bool) (cd : Jvm.ClassFile.Cond) (tgt nx : Nat) (ivs : List zI) (lo : List (Nat × zV)) (sk : List zV) (hp : List zC) (nc ns : Nat) : zQ := match sk with
  | (t2, y, d) :: (t1, x, c) :: sk => match Nat.beq t1 t && Nat.beq t2 t with
    | true => some (z_go (z_asm both cd ivs x c y d) tgt lo sk hp nc ns ++ z_go (z_asm both (z_neg cd) ivs x c y d) nx lo sk hp nc ns)
    | false => none
  | _ => none
def z_br1 (cd : Jvm.ClassFile.Cond) (tgt nx : Nat) (ivs : List zI) (lo : List (Nat × zV)) (sk : List zV) (hp : List zC) (nc ns : Nat) : zQ := match sk with
  | (t1, x, c) :: sk => match Nat.beq t1 0 with
    | true => some (z_go (z_asm true cd ivs x c 0 0) tgt lo sk hp nc ns ++ z_go (z_asm true (z_neg cd) ivs x c 0 0) nx lo sk hp nc ns)
    | false => none
  | _ => none
/-- what two ways give -/
theorem z_two {both : Bool} {cd : Jvm.ClassFile.Cond} {tgt nx x y : Nat} {c0 d X Y : Int} {w : List Value} (hg : z_g D cl tys A H0 nL ρ0 ad0 (ivs, lo, sk, hp, nc, ns) ρ ws lv w H locs ls) (hX : z_v ρ x c0 X) (hY : z_v ρ y d Y)
    (k : ∀ z ∈ z_go (z_asm both cd ivs x c0 y d) tgt lo sk hp nc ns ++ z_go (z_asm both (z_neg cd) ivs x c0 y d) nx lo sk hp nc ns, z_K p l e R s m args below meth c Q D cl tys A H0 nL ρ0 ad0 z.1 z.2) :
    (z_hd cd X Y → W p l e R s m args below meth c H locs nc ns Q (F0 m tgt ls w)) ∧ (z_hd (z_neg cd) X Y → W p l e R s m args below meth c H locs nc ns Q (F0 m nx ls w)) := by
  refine ⟨fun h => ?_, fun h => ?_⟩
  · obtain ⟨i, h1, h2⟩ := z_asm_ok (both := both) hg.xiv hX hY h
    exact k (tgt, (i, lo, sk, hp, nc, ns)) (List.mem_append_left _ (List.mem_map.mpr ⟨i, h1, rfl⟩)) ρ ws lv w H locs ls (hg.more (List.prefix_refl _) h2)
  · obtain ⟨i, h1, h2⟩ := z_asm_ok (both := both) hg.xiv hX hY h
    exact k (nx, (i, lo, sk, hp, nc, ns)) (List.mem_append_right _ (List.mem_map.mpr ⟨i, h1, rfl⟩)) ρ ws lv w H locs ls (hg.more (List.prefix_refl _) h2)
theorem zs_br2 {cd : Jvm.ClassFile.Cond} {tgt nx : Nat}
    (row : ∀ (H : Heap) (locs : List Loc) (ls : Array Slot) (rest : List Value) (x y : Int32), (z_hd cd x.toInt y.toInt → W p l e R s m args below meth c H locs nc ns Q (F0 m tgt ls rest)) → (z_hd (z_neg cd) x.toInt y.toInt → W p l e R s m args below meth c H locs nc ns Q (F0 m nx ls rest)) → W p l e R s m args below meth c H locs nc ns Q (F0 m pc ls (.int y :: .int x :: rest)))
    (h : z_br2 0 true cd tgt nx ivs lo sk hp nc ns = some q) (k : ∀ z ∈ q, z_K p l e R s m args below meth c Q D cl tys A H0 nL ρ0 ad0 z.1 z.2) : z_K p l e R s m args below meth c Q D cl tys A H0 nL ρ0 ad0 pc (ivs, lo, sk, hp, nc, ns) := by
  unfold z_br2 at h
  split at h
  · rename_i t2 y d t1 x c0 sk
    split at h
    · rename_i et
      have e1 := z_beq (z_and et).1
      have e2 := z_beq (z_and et).2
      subst e1
      subst e2
      cases h
      intro ρ ws lv st H locs ls hg
      obtain ⟨v2, v1, st, rfl, hv2, hv1, hs⟩ := hg.xsk.c2
      obtain ⟨Y, rfl, hY⟩ := hv2
      obtain ⟨X, rfl, hX⟩ := hv1
      have t := z_two (hg.stk hs) hX hY k
      exact row H locs ls st X Y t.1 t.2
    · cases h
  · cases h
theorem zs_br2L {cd : Jvm.ClassFile.Cond} {tgt nx : Nat}
    (row : ∀ (H : Heap) (locs : List Loc) (ls : Array Slot) (rest : List Value) (x y : Int64), (z_hd cd x.toInt y.toInt → W p l e R s m args below meth c H locs nc ns Q (F0 m tgt ls rest)) → (z_hd (z_neg cd) x.toInt y.toInt → W p l e R s m args below meth c H locs nc ns Q (F0 m nx ls rest)) → W p l e R s m args below meth c H locs nc ns Q (F0 m pc ls (.long y :: .long x :: rest)))
    (h : z_br2 1 true cd tgt nx ivs lo sk hp nc ns = some q) (k : ∀ z ∈ q, z_K p l e R s m args below meth c Q D cl tys A H0 nL ρ0 ad0 z.1 z.2) : z_K p l e R s m args below meth c Q D cl tys A H0 nL ρ0 ad0 pc (ivs, lo, sk, hp, nc, ns) := by
  unfold z_br2 at h
  split at h
  · rename_i t2 y d t1 x c0 sk
    split at h
    · rename_i et
      have e1 := z_beq (z_and et).1
      have e2 := z_beq (z_and et).2
      subst e1
      subst e2
      cases h
      intro ρ ws lv st H locs ls hg
      obtain ⟨v2, v1, st, rfl, hv2, hv1, hs⟩ := hg.xsk.c2
      obtain ⟨Y, rfl, hY⟩ := hv2
      obtain ⟨X, rfl, hX⟩ := hv1
      have t := z_two (hg.stk hs) hX hY k
      exact row H locs ls st X Y t.1 t.2
    · cases h
  · cases h
theorem zs_br1 {cd : Jvm.ClassFile.Cond} {tgt nx : Nat}
    (row : ∀ (H : Heap) (locs : List Loc) (ls : Array Slot) (rest : List Value) (x : Int32), (z_hd cd x.toInt 0 → W p l e R s m args below meth c H locs nc ns Q (F0 m tgt ls rest)) → (z_hd (z_neg cd) x.toInt 0 → W p l e R s m args below meth c H locs nc ns Q (F0 m nx ls rest)) → W p l e R s m args below meth c H locs nc ns Q (F0 m pc ls (.int x :: rest)))
    (h : z_br1 cd tgt nx ivs lo sk hp nc ns = some q) (k : ∀ z ∈ q, z_K p l e R s m args below meth c Q D cl tys A H0 nL ρ0 ad0 z.1 z.2) : z_K p l e R s m args below meth c Q D cl tys A H0 nL ρ0 ad0 pc (ivs, lo, sk, hp, nc, ns) := by
  unfold z_br1 at h
  split at h
  · rename_i t1 x c0 sk
    split at h
    · rename_i et
      have e1 := z_beq et
      subst e1
      cases h
      intro ρ ws lv st H locs ls hg
      obtain ⟨v1, st, rfl, hv1, hs⟩ := hg.xsk.c1
      obtain ⟨X, rfl, hX⟩ := hv1
      have t := z_two (hg.stk hs) hX (z_v.of0 hg.zero 0) k
      exact row H locs ls st X t.1 t.2
    · cases h
  · cases h
end ZA
end
section
/-! ===== fields, arrays, new cells ===== -/
theorem z_ad_get {ws : va_W} {j a : Nat} {e : va_E} (h : ws[j]? = some (a, e)) : (z_ad ws)[j]? = some a := by
  unfold z_ad
  rw [List.getElem?_map, h]
  rfl
theorem z_ad_set {ws : va_W} {j a : Nat} {e e' : va_E} (h : ws[j]? = some (a, e)) : z_ad (ws.set j (a, e')) = z_ad ws := by
  unfold z_ad
  apply List.ext_getElem?
  intro i
  rw [List.getElem?_map, List.getElem?_map]
  by_cases hi : j = i
  · subst hi
    rw [List.getElem?_set_self (List.getElem?_eq_some_iff.mp h).1, h]
    rfl
  · rw [List.getElem?_set_ne hi]
theorem z_ad_app (ws ws2 : va_W) : z_ad (ws ++ ws2) = z_ad ws ++ z_ad ws2 := List.map_append ..
theorem z_cell {tys : List (ClassId × FieldType)} {ρ : List Int} {ws : va_W} {hp : List zC} {j : Nat} {o : Int} {v : Value} {cell : zC} (hH : z_F (z_H tys ρ (z_ad ws)) hp ws) (hm : z_m ρ (z_ad ws) (2, j, o) v) (hc : hp[j]? = some cell) :
    ∃ (a : Nat) (e : va_E), ws[j]? = some (a, e) ∧ v = .ref a ∧ z_c tys ρ (z_ad ws) cell e := by
  obtain ⟨⟨a, e⟩, h1, h2⟩ := hH.get hc
  obtain ⟨q, h3, h4⟩ := hm
  rw [z_ad_get h1] at h3
  cases h3
  exact ⟨a, e, h1, h4, h2⟩
def z_tyok (ty : Nat) (ivs : List zI) (a : zV) : Bool := match ty with
  | 0 => Nat.beq a.1 0
  | 1 => Nat.beq a.1 0 && (match z_b ivs a.2.1 a.2.2 with
    | some (l, h) => z_ile 0 l && z_ile h 1
    | none => false)
  | 2 => Nat.beq a.1 1
  | _ => Nat.beq a.1 2
def z_tv (ty : Nat) (v : Value) : Prop := match ty with
  | 0 => ∃ i : Int32, v = .int i
  | 1 => v = .int 0 ∨ v = .int 1
  | 2 => ∃ i : Int64, v = .long i
  | _ => ∃ a : Nat, v = .ref a
theorem z_01 {x : Int32} (h1 : 0 ≤ x.toInt) (h2 : x.toInt ≤ 1) : x = 0 ∨ x = 1 := by
  rcases (show x.toInt = 0 ∨ x.toInt = 1 by omega) with h | h
  · exact Or.inl (Int32.toInt_inj.mp (by rw [h]; rfl))
  · exact Or.inr (Int32.toInt_inj.mp (by rw [h]; rfl))
theorem z_tyok_ok {ty : Nat} {ivs : List zI} {ρ : List Int} {ad : List Nat} {a : zV} {v : Value} (hiv : z_iv ivs ρ) (hm : z_m ρ ad a v) (h : z_tyok ty ivs a = true) : z_tv ty v := by
  obtain ⟨t, x, y⟩ := a
  unfold z_tyok at h
  unfold z_tv
  split at h
  · have e : t = 0 := z_beq h
    subst e
    obtain ⟨i, rfl, -⟩ := hm
    exact ⟨i, rfl⟩
  · have e : t = 0 := z_beq (z_and h).1
    subst e
    obtain ⟨i, rfl, hv⟩ := hm
    have h2 := (z_and h).2
    split at h2
    · rename_i l u eb
      have b := z_b_ok hiv hv eb
      have b1 := z_ile_ok (z_and h2).1
      have b2 := z_ile_ok (z_and h2).2
      rcases z_01 (x := i) (by omega) (by omega) with e | e
      · exact Or.inl (by rw [e])
      · exact Or.inr (by rw [e])
    · cases h2
  · have e : t = 1 := z_beq h
    subst e
    obtain ⟨i, rfl, -⟩ := hm
    exact ⟨i, rfl⟩
  · have e : t = 2 := z_beq h
    subst e
    obtain ⟨q, -, rfl⟩ := hm
    exact ⟨q, rfl⟩
section ZB
variable {p : Program} {l : Launch} {e : Env} {R : Room} {s : State} {m : MethodId} {args : Array Value} {below : List Frame} {meth : Method} {c : Code} {Q : State → Prop} {D : va_G} {cl : List vw_C} {tys : List (ClassId × FieldType)} {A : Nat → Prop} {H0 : Heap} {nL : Nat} {ρ0 : List Int} {ad0 : List Nat}
variable {cc : ByteArray} {pc : Nat} {ivs : List zI} {lo : List (Nat × zV)} {sk : List zV} {hp : List zC} {nc ns : Nat} {q : List (Nat × zS)}
variable {ρ : List Int} {ws : va_W} {lv : List (Nat × Value)} {st st' : List Value} {H : Heap} {locs : List Loc} {ls : Array Slot} {sk' : List zV}
/-- a cell of the world has changed -/
theorem z_g.set {H1 : Heap} {locs1 : List Loc} {j a : Nat} {e0 e1 : va_E} {cell : zC} (h : z_g D cl tys A H0 nL ρ0 ad0 (ivs, lo, sk, hp, nc, ns) ρ ws lv st H locs ls) (hj : ws[j]? = some (a, e0)) (hc : z_c tys ρ (z_ad ws) cell e1) (hP : va_P D cl (ws.set j (a, e1)) H1) (hD : va_D A (ws.set j (a, e1))) (hS : va_S A H0 H1 locs1) :
    z_g D cl tys A H0 nL ρ0 ad0 (ivs, lo, sk, hp.set j cell, nc, ns) ρ (ws.set j (a, e1)) lv st H1 locs1 ls := by
  obtain ⟨⟨a1, a3, a4⟩, b1, b3, b4, b5, b6, b7, b8, b9⟩ := h
  have ead := z_ad_set (e' := e1) hj
  refine ⟨⟨a1, by rw [ead]; exact a3, a4⟩, b1, by rw [ead]; exact b3, by rw [ead]; exact b4, ?_, hP, hD, hS, b9⟩
  rw [ead]
  exact z_F.set (a := cell) (b := (a, e1)) hc b5 j
def z_gf (ci k : Nat) (pc : Nat) (ivs : List zI) (lo : List (Nat × zV)) (sk : List zV) (hp : List zC) (nc ns : Nat) : zQ := match sk with
  | (2, j, _) :: sk => match hp[j]? with
    | some (.inl (ci', fs)) => match Nat.beq ci' ci with
      | true => match fs[k]? with
        | some a => some [(pc, (ivs, lo, a :: sk, hp, nc, ns))]
        | none => none
      | false => none
    | _ => none
  | _ => none
theorem zs_gf {ci k n : Nat} (row : ∀ (ws : va_W) (H : Heap) (locs : List Loc) (ls : Array Slot) (rest : List Value) (a q0 : Nat) (vs : List Value) (v : Value), va_P D cl ws H → ws[q0]? = some (a, .inr (ci, vs)) → vs[k]? = some v → W p l e R s m args below meth c H locs nc ns Q (F0 m n ls (v :: rest)) → W p l e R s m args below meth c H locs nc ns Q (F0 m pc ls (.ref a :: rest)))
    (h : z_gf ci k n ivs lo sk hp nc ns = some q) (kk : ∀ z ∈ q, z_K p l e R s m args below meth c Q D cl tys A H0 nL ρ0 ad0 z.1 z.2) : z_K p l e R s m args below meth c Q D cl tys A H0 nL ρ0 ad0 pc (ivs, lo, sk, hp, nc, ns) := by
  unfold z_gf at h
  split at h
  · rename_i j o sk
    split at h
    · rename_i ci' fs ec
      split at h
      · rename_i ei
        have ei := z_beq ei
        subst ei
        split at h
        · rename_i a ea
          cases h
          intro ρ ws lv st H locs ls hg
          obtain ⟨v1, st, rfl, hv1, hs⟩ := hg.xsk.c1
          obtain ⟨ad, e1, h1, rfl, h2⟩ := z_cell hg.xhp hv1 ec
          obtain ⟨vs, rfl, hF⟩ := h2
          obtain ⟨v, h3, h4⟩ := hF.get ea
          exact row ws H locs ls st ad j vs v hg.xP h1 h3 (kk _ (List.mem_singleton.mpr rfl) ρ ws lv _ H locs ls (hg.stk ⟨h4, hs⟩))
        · cases h
      · cases h
    · cases h
  · cases h
def z_pf (ci k ty : Nat) (pc : Nat) (ivs : List zI) (lo : List (Nat × zV)) (sk : List zV) (hp : List zC) (nc ns : Nat) : zQ := match sk with
  | a :: (2, j, _) :: sk => match hp[j]? with
    | some (.inl (ci', fs)) => match Nat.beq ci' ci && (Nat.ble (k + 1) fs.length && z_tyok ty ivs a) with
      | true => some [(pc, (ivs, lo, sk, hp.set j (.inl (ci, fs.set k a)), nc, ns))]
      | false => none
    | _ => none
  | _ => none
theorem zs_pf {ci k ty n : Nat} (row : ∀ (ws : va_W) (H : Heap) (locs : List Loc) (ls : Array Slot) (rest : List Value) (a q0 : Nat) (vs : List Value) (v : Value), va_P D cl ws H → va_D A ws → va_S A H0 H locs → ws[q0]? = some (a, .inr (ci, vs)) → k < vs.length → z_tv ty v →
      (∀ (H1 : Heap) (locs1 : List Loc), va_P D cl (ws.set q0 (a, .inr (ci, vs.set k v))) H1 → va_D A (ws.set q0 (a, .inr (ci, vs.set k v))) → va_S A H0 H1 locs1 → W p l e R s m args below meth c H1 locs1 nc ns Q (F0 m n ls rest)) → W p l e R s m args below meth c H locs nc ns Q (F0 m pc ls (v :: .ref a :: rest)))
    (h : z_pf ci k ty n ivs lo sk hp nc ns = some q) (kk : ∀ z ∈ q, z_K p l e R s m args below meth c Q D cl tys A H0 nL ρ0 ad0 z.1 z.2) : z_K p l e R s m args below meth c Q D cl tys A H0 nL ρ0 ad0 pc (ivs, lo, sk, hp, nc, ns) := by
  unfold z_pf at h
  split at h
  · rename_i a j o sk
    split at h
    · rename_i ci' fs ec
      split at h
      · rename_i et
        have ei := z_beq (z_and et).1
        have el := Nat.le_of_ble_eq_true (z_and (z_and et).2).1
        have ey := (z_and (z_and et).2).2
        subst ei
        cases h
        intro ρ ws lv st H locs ls hg
        obtain ⟨v, v1, st, rfl, hv, hv1, hs⟩ := hg.xsk.c2
        obtain ⟨ad, e1, h1, rfl, h2⟩ := z_cell hg.xhp hv1 ec
        obtain ⟨vs, rfl, hF⟩ := h2
        refine row ws H locs ls st ad j vs v hg.xP hg.xD hg.xS h1 (by rw [← hF.len]; exact el) (z_tyok_ok hg.xiv hv ey) (fun H1 locs1 hP hD hS => ?_)
        have hc : z_c tys ρ (z_ad ws) (.inl (ci', fs.set k a)) (.inr (ci', vs.set k v)) := ⟨_, rfl, z_F.set hv hF k⟩
        have hg' := (hg.stk hs).set h1 hc hP hD hS
        exact kk _ (List.mem_singleton.mpr rfl) ρ _ lv st H1 locs1 ls hg'
      · cases h
    · cases h
  · cases h
/-- an index that is in its row -/
def z_ix (ivs : List zI) (x : Nat) (c : Int) (n : Nat) : Bool := match z_b ivs x c with
  | some (l, h) => z_ile 0 l && z_ile (h + 1) (Int.ofNat n)
  | none => false
theorem z_ix_ok {ivs : List zI} {ρ : List Int} {x n : Nat} {c0 : Int} {i : Int32} (hiv : z_iv ivs ρ) (hv : z_v ρ x c0 i.toInt) (h : z_ix ivs x c0 n = true) : vp_in i n ∧ i.toNatClampNeg < n ∧ (i.toNatClampNeg : Int) = i.toInt := by
  unfold z_ix at h
  split at h
  · rename_i l u eb
    have b := z_b_ok hiv hv eb
    have b1 := z_ile_ok (z_and h).1
    have b2 : u + 1 ≤ (n : Int) := z_ile_ok (z_and h).2
    refine ⟨vp_in_iff.mpr ⟨by omega, by omega⟩, ?_, ?_⟩
    · show i.toInt.toNat < n
      omega
    · show ((i.toInt.toNat : Nat) : Int) = i.toInt
      omega
  · cases h
/-- a number out of an array -/
def z_al (ok : Nat → Bool) (rt : Nat) (pc : Nat) (ivs : List zI) (lo : List (Nat × zV)) (sk : List zV) (hp : List zC) (nc ns : Nat) : zQ := match sk with
  | (0, x, c) :: (2, j, _) :: sk => match hp[j]? with
    | some (.inr (.inl (t, n, l, h))) => match ok t && z_ix ivs x c n with
      | true => match z_new rt l h ivs with
        | (r, ivs') => some [(pc, (ivs', lo, r :: sk, hp, nc, ns))]
      | false => none
    | some (.inr (.inr (t, es))) => match ok t && z_ix ivs x c es.length with
      | true => some ((List.range es.length).flatMap (fun k => match es[k]? with
        | some a => z_go (z_asm false .eq ivs x c 0 (Int.ofNat k)) pc lo (a :: sk) hp nc ns
        | none => []))
      | false => none
    | _ => none
  | _ => none
theorem zs_al {n : Nat} {ok : Nat → Bool} (hok : ∀ t, ok t = true → t < 3) (row : ∀ (ws : va_W) (H : Heap) (locs : List Loc) (ls : Array Slot) (rest : List Value) (a q0 t0 n0 : Nat) (cA : ClassId) (ty : FieldType) (f : Nat → Int32) (i : Int32), va_P D cl ws H → ws[q0]? = some (a, .inl (cA, n0, .inl f)) → tys[t0]? = some (cA, ty) → ok t0 = true → vp_in i n0 → W p l e R s m args below meth c H locs nc ns Q (F0 m n ls (.int (f i.toNatClampNeg) :: rest)) → W p l e R s m args below meth c H locs nc ns Q (F0 m pc ls (.int i :: .ref a :: rest)))
    (h : z_al ok 0 n ivs lo sk hp nc ns = some q) (kk : ∀ z ∈ q, z_K p l e R s m args below meth c Q D cl tys A H0 nL ρ0 ad0 z.1 z.2) : z_K p l e R s m args below meth c Q D cl tys A H0 nL ρ0 ad0 pc (ivs, lo, sk, hp, nc, ns) := by
  unfold z_al at h
  split at h
  · rename_i x c0 j o sk
    split at h
    · rename_i t n0 lb hb0 ec
      split at h
      · rename_i et
        have e1 := (z_and et).1
        have e2 := (z_and et).2
        cases h
        intro ρ ws lv st H locs ls hg
        obtain ⟨v2, v1, st, rfl, hv2, hv1, hs⟩ := hg.xsk.c2
        obtain ⟨i, rfl, hi⟩ := hv2
        obtain ⟨ad, ee, h1, rfl, h2⟩ := z_cell hg.xhp hv1 ec
        have hin := z_ix_ok hg.xiv hi e2
        obtain ⟨cA, ty, ht, ⟨-, f, rfl, hb⟩ | ⟨h3, -⟩⟩ := h2
        · have hb := hb _ hin.2.1
          obtain ⟨r1, ρ', g1, g2, g3⟩ := z_new_ok (t := 0) hg.xiv hg.zero hb.1 hb.2
          have hg' := (hg.stk hs).more g1 g2
          exact row ws H locs ls st ad j t n0 cA ty f i hg.xP h1 ht e1 hin.1 (kk _ (List.mem_singleton.mpr rfl) ρ' ws lv _ H locs ls (hg'.stk ⟨z_m.ofR (ρ := ρ) r1 g3, hg'.xsk⟩))
        · have := hok _ e1
          omega
      · cases h
    · rename_i t es ec
      split at h
      · rename_i et
        have e1 := (z_and et).1
        have e2 := (z_and et).2
        cases h
        intro ρ ws lv st H locs ls hg
        obtain ⟨v2, v1, st, rfl, hv2, hv1, hs⟩ := hg.xsk.c2
        obtain ⟨i, rfl, hi⟩ := hv2
        obtain ⟨ad, ee, h1, rfl, h2⟩ := z_cell hg.xhp hv1 ec
        have hin := z_ix_ok hg.xiv hi e2
        obtain ⟨cA, ty, ht, ⟨-, f, rfl, hb⟩ | ⟨h3, -⟩⟩ := h2
        · have ea : es[i.toNatClampNeg]? = some es[i.toNatClampNeg] := List.getElem?_eq_getElem hin.2.1
          obtain ⟨iv, h3, h4⟩ := z_asm_ok (both := false) (cd := .eq) (c := c0) (d := Int.ofNat i.toNatClampNeg) (Y := Int.ofNat i.toNatClampNeg) hg.xiv hi (z_v.of0 hg.zero _) (show i.toInt = Int.ofNat _ from hin.2.2.symm)
          refine row ws H locs ls st ad j t es.length cA ty f i hg.xP h1 ht e1 hin.1 (kk (n, (iv, lo, es[i.toNatClampNeg] :: sk, hp, nc, ns)) ?_ ρ ws lv _ H locs ls (((hg.stk hs).more (List.prefix_refl _) h4).stk ⟨hb _ _ ea, hs⟩))
          refine List.mem_flatMap.mpr ⟨i.toNatClampNeg, List.mem_range.mpr hin.2.1, ?_⟩
          rw [ea]
          exact List.mem_map.mpr ⟨iv, h3, rfl⟩
        · have := hok _ e1
          omega
      · cases h
    · cases h
  · cases h
def z_alL (pc : Nat) (ivs : List zI) (lo : List (Nat × zV)) (sk : List zV) (hp : List zC) (nc ns : Nat) : zQ := match sk with
  | (0, x, c) :: (2, j, _) :: sk => match hp[j]? with
    | some (.inr (.inl (t, n, l, h))) => match Nat.beq t 3 && z_ix ivs x c n with
      | true => match z_new 1 l h ivs with
        | (r, ivs') => some [(pc, (ivs', lo, r :: sk, hp, nc, ns))]
      | false => none
    | _ => none
  | _ => none
theorem zs_alL {n : Nat} (row : ∀ (ws : va_W) (H : Heap) (locs : List Loc) (ls : Array Slot) (rest : List Value) (a q0 n0 : Nat) (cA : ClassId) (ty : FieldType) (f : Nat → Int64) (i : Int32), va_P D cl ws H → ws[q0]? = some (a, .inl (cA, n0, .inr (.inl f))) → tys[3]? = some (cA, ty) → vp_in i n0 → W p l e R s m args below meth c H locs nc ns Q (F0 m n ls (.long (f i.toNatClampNeg) :: rest)) → W p l e R s m args below meth c H locs nc ns Q (F0 m pc ls (.int i :: .ref a :: rest)))
    (h : z_alL n ivs lo sk hp nc ns = some q) (kk : ∀ z ∈ q, z_K p l e R s m args below meth c Q D cl tys A H0 nL ρ0 ad0 z.1 z.2) : z_K p l e R s m args below meth c Q D cl tys A H0 nL ρ0 ad0 pc (ivs, lo, sk, hp, nc, ns) := by
  unfold z_alL at h
  split at h
  · rename_i x c0 j o sk
    split at h
    · rename_i t n0 lb hb0 ec
      split at h
      · rename_i et
        have e1 : t = 3 := z_beq (z_and et).1
        have e2 := (z_and et).2
        cases h
        intro ρ ws lv st H locs ls hg
        obtain ⟨v2, v1, st, rfl, hv2, hv1, hs⟩ := hg.xsk.c2
        obtain ⟨i, rfl, hi⟩ := hv2
        obtain ⟨ad, ee, h1, rfl, h2⟩ := z_cell hg.xhp hv1 ec
        have hin := z_ix_ok hg.xiv hi e2
        obtain ⟨cA, ty, ht, ⟨h3, -⟩ | ⟨-, f, rfl, hb⟩⟩ := h2
        · omega
        · have hb := hb _ hin.2.1
          subst e1
          obtain ⟨r1, ρ', g1, g2, g3⟩ := z_new_ok (t := 1) hg.xiv hg.zero hb.1 hb.2
          have hg' := (hg.stk hs).more g1 g2
          exact row ws H locs ls st ad j n0 cA ty f i hg.xP h1 ht hin.1 (kk _ (List.mem_singleton.mpr rfl) ρ' ws lv _ H locs ls (hg'.stk ⟨z_m.ofRL (ρ := ρ) r1 g3, hg'.xsk⟩))
      · cases h
    · cases h
  · cases h
/-- a number into an array: bounds that the row's kind asks for -/
def z_as (ok : Nat → Int → Int → Bool) (pc : Nat) (ivs : List zI) (lo : List (Nat × zV)) (sk : List zV) (hp : List zC) (nc ns : Nat) : zQ := match sk with
  | (0, y, d) :: (0, x, c) :: (2, j, _) :: sk => match z_b ivs y d with
    | some (vl, vh) => match hp[j]? with
      | some (.inr (.inl (t, n, l, h))) => match ok t vl vh && z_ix ivs x c n with
        | true => some [(pc, (ivs, lo, sk, hp.set j (.inr (.inl (t, n, z_min l vl, z_max h vh))), nc, ns))]
        | false => none
      | some (.inr (.inr (t, es))) => match ok t vl vh && z_ix ivs x c es.length with
        | true => some ((List.range es.length).flatMap (fun k => z_go (z_asm false .eq ivs x c 0 (Int.ofNat k)) pc lo sk (hp.set j (.inr (.inr (t, es.set k (0, y, d))))) nc ns))
        | false => none
      | _ => none
    | none => none
  | _ => none
theorem z_last {α : Type} {l : List α} {n : Nat} (a : α) (h : l.length = n) : (l ++ [a])[n]? = some a := by
  rw [← h, List.getElem?_append_right (Nat.le_refl _), Nat.sub_self]
  rfl
theorem zs_as {n : Nat} {ok : Nat → Int → Int → Bool} (hok : ∀ t a b, ok t a b = true → t < 3) (row : ∀ (ws : va_W) (H : Heap) (locs : List Loc) (ls : Array Slot) (rest : List Value) (a q0 t0 n0 : Nat) (cA : ClassId) (ty : FieldType) (f : Nat → Int32) (i x : Int32) (vl vh : Int), va_P D cl ws H → va_D A ws → va_S A H0 H locs → ws[q0]? = some (a, .inl (cA, n0, .inl f)) → tys[t0]? = some (cA, ty) → ok t0 vl vh = true → vl ≤ x.toInt → x.toInt ≤ vh → vp_in i n0 →
      (∀ (H1 : Heap) (locs1 : List Loc), va_P D cl (ws.set q0 (a, .inl (cA, n0, .inl (upd f i.toNatClampNeg x)))) H1 → va_D A (ws.set q0 (a, .inl (cA, n0, .inl (upd f i.toNatClampNeg x)))) → va_S A H0 H1 locs1 → W p l e R s m args below meth c H1 locs1 nc ns Q (F0 m n ls rest)) → W p l e R s m args below meth c H locs nc ns Q (F0 m pc ls (.int x :: .int i :: .ref a :: rest)))
    (h : z_as ok n ivs lo sk hp nc ns = some q) (kk : ∀ z ∈ q, z_K p l e R s m args below meth c Q D cl tys A H0 nL ρ0 ad0 z.1 z.2) : z_K p l e R s m args below meth c Q D cl tys A H0 nL ρ0 ad0 pc (ivs, lo, sk, hp, nc, ns) := by
  unfold z_as at h
  split at h
  · rename_i y d x c0 j o sk
    split at h
    · rename_i vl vh eb
      split at h
      · rename_i t n0 lb hb0 ec
        split at h
        · rename_i et
          have e1 := (z_and et).1
          have e2 := (z_and et).2
          cases h
          intro ρ ws lv st H locs ls hg
          obtain ⟨v3, v2, v1, st, rfl, hv3, hv2, hv1, hs⟩ := hg.xsk.c3
          obtain ⟨X, rfl, hX⟩ := hv3
          obtain ⟨i, rfl, hi⟩ := hv2
          obtain ⟨ad, ee, h1, rfl, h2⟩ := z_cell hg.xhp hv1 ec
          have hin := z_ix_ok hg.xiv hi e2
          have hxb := z_b_ok hg.xiv hX eb
          obtain ⟨cA, ty, ht, ⟨h3, f, rfl, hb⟩ | ⟨h3, -⟩⟩ := h2
          · refine row ws H locs ls st ad j t n0 cA ty f i X vl vh hg.xP hg.xD hg.xS h1 ht e1 hxb.1 hxb.2 hin.1 (fun H1 locs1 hP hD hS => ?_)
            have hc : z_c tys ρ (z_ad ws) (.inr (.inl (t, n0, z_min lb vl, z_max hb0 vh))) (.inl (cA, n0, .inl (upd f i.toNatClampNeg X))) := by
              refine ⟨cA, ty, ht, Or.inl ⟨h3, _, rfl, fun jj hj => ?_⟩⟩
              have m1 := z_min_l lb vl
              have m2 := z_min_r lb vl
              have m3 := z_max_l hb0 vh
              have m4 := z_max_r hb0 vh
              have b := hb jj hj
              unfold upd
              split <;> omega
            exact kk _ (List.mem_singleton.mpr rfl) ρ _ lv st H1 locs1 ls ((hg.stk hs).set h1 hc hP hD hS)
          · have := hok _ _ _ e1
            omega
        · cases h
      · rename_i t es ec
        split at h
        · rename_i et
          have e1 := (z_and et).1
          have e2 := (z_and et).2
          cases h
          intro ρ ws lv st H locs ls hg
          obtain ⟨v3, v2, v1, st, rfl, hv3, hv2, hv1, hs⟩ := hg.xsk.c3
          obtain ⟨X, rfl, hX⟩ := id hv3
          obtain ⟨i, rfl, hi⟩ := hv2
          obtain ⟨ad, ee, h1, rfl, h2⟩ := z_cell hg.xhp hv1 ec
          have hin := z_ix_ok hg.xiv hi e2
          have hxb := z_b_ok hg.xiv hX eb
          obtain ⟨cA, ty, ht, ⟨h3, f, rfl, hb⟩ | ⟨h3, -⟩⟩ := h2
          · obtain ⟨iv, h5, h6⟩ := z_asm_ok (both := false) (cd := .eq) (c := c0) (d := Int.ofNat i.toNatClampNeg) (Y := Int.ofNat i.toNatClampNeg) hg.xiv hi (z_v.of0 hg.zero _) (show i.toInt = Int.ofNat _ from hin.2.2.symm)
            refine row ws H locs ls st ad j t es.length cA ty f i X vl vh hg.xP hg.xD hg.xS h1 ht e1 hxb.1 hxb.2 hin.1 (fun H1 locs1 hP hD hS => ?_)
            have hc : z_c tys ρ (z_ad ws) (.inr (.inr (t, es.set i.toNatClampNeg (0, y, d)))) (.inl (cA, es.length, .inl (upd f i.toNatClampNeg X))) := by
              refine ⟨cA, ty, ht, Or.inl ⟨h3, _, by rw [List.length_set], fun jj a ha => ?_⟩⟩
              by_cases hj : i.toNatClampNeg = jj
              · subst hj
                rw [List.getElem?_set_self hin.2.1] at ha
                cases ha
                unfold upd
                rw [if_pos rfl]
                exact hv3
              · rw [List.getElem?_set_ne hj] at ha
                unfold upd
                rw [if_neg (Ne.symm hj)]
                exact hb jj a ha
            refine kk (n, (iv, lo, sk, hp.set j (.inr (.inr (t, es.set i.toNatClampNeg (0, y, d)))), nc, ns)) ?_ ρ _ lv st H1 locs1 ls (((hg.stk hs).set h1 hc hP hD hS).more (List.prefix_refl _) h6)
            refine List.mem_flatMap.mpr ⟨i.toNatClampNeg, List.mem_range.mpr hin.2.1, ?_⟩
            exact List.mem_map.mpr ⟨iv, h5, rfl⟩
          · have := hok _ _ _ e1
            omega
        · cases h
      · cases h
    · cases h
  · cases h
def z_asL (pc : Nat) (ivs : List zI) (lo : List (Nat × zV)) (sk : List zV) (hp : List zC) (nc ns : Nat) : zQ := match sk with
  | (1, y, d) :: (0, x, c) :: (2, j, _) :: sk => match z_b ivs y d with
    | some (vl, vh) => match hp[j]? with
      | some (.inr (.inl (t, n, l, h))) => match Nat.beq t 3 && z_ix ivs x c n with
        | true => some [(pc, (ivs, lo, sk, hp.set j (.inr (.inl (t, n, z_min l vl, z_max h vh))), nc, ns))]
        | false => none
      | _ => none
    | none => none
  | _ => none
theorem zs_asL {n : Nat} (row : ∀ (ws : va_W) (H : Heap) (locs : List Loc) (ls : Array Slot) (rest : List Value) (a q0 n0 : Nat) (cA : ClassId) (ty : FieldType) (f : Nat → Int64) (i : Int32) (x : Int64), va_P D cl ws H → va_D A ws → va_S A H0 H locs → ws[q0]? = some (a, .inl (cA, n0, .inr (.inl f))) → tys[3]? = some (cA, ty) → vp_in i n0 →
      (∀ (H1 : Heap) (locs1 : List Loc), va_P D cl (ws.set q0 (a, .inl (cA, n0, .inr (.inl (vp_updL f i.toNatClampNeg x))))) H1 → va_D A (ws.set q0 (a, .inl (cA, n0, .inr (.inl (vp_updL f i.toNatClampNeg x))))) → va_S A H0 H1 locs1 → W p l e R s m args below meth c H1 locs1 nc ns Q (F0 m n ls rest)) → W p l e R s m args below meth c H locs nc ns Q (F0 m pc ls (.long x :: .int i :: .ref a :: rest)))
    (h : z_asL n ivs lo sk hp nc ns = some q) (kk : ∀ z ∈ q, z_K p l e R s m args below meth c Q D cl tys A H0 nL ρ0 ad0 z.1 z.2) : z_K p l e R s m args below meth c Q D cl tys A H0 nL ρ0 ad0 pc (ivs, lo, sk, hp, nc, ns) := by
  unfold z_asL at h
  split at h
  · rename_i y d x c0 j o sk
    split at h
    · rename_i vl vh eb
      split at h
      · rename_i t n0 lb hb0 ec
        split at h
        · rename_i et
          have e1 : t = 3 := z_beq (z_and et).1
          have e2 := (z_and et).2
          cases h
          intro ρ ws lv st H locs ls hg
          obtain ⟨v3, v2, v1, st, rfl, hv3, hv2, hv1, hs⟩ := hg.xsk.c3
          obtain ⟨X, rfl, hX⟩ := hv3
          obtain ⟨i, rfl, hi⟩ := hv2
          obtain ⟨ad, ee, h1, rfl, h2⟩ := z_cell hg.xhp hv1 ec
          have hin := z_ix_ok hg.xiv hi e2
          have hxb := z_b_ok hg.xiv hX eb
          obtain ⟨cA, ty, ht, ⟨h3, -⟩ | ⟨h3, f, rfl, hb⟩⟩ := h2
          · omega
          · subst h3
            refine row ws H locs ls st ad j n0 cA ty f i X hg.xP hg.xD hg.xS h1 ht hin.1 (fun H1 locs1 hP hD hS => ?_)
            have hc : z_c tys ρ (z_ad ws) (.inr (.inl (3, n0, z_min lb vl, z_max hb0 vh))) (.inl (cA, n0, .inr (.inl (vp_updL f i.toNatClampNeg X)))) := by
              refine ⟨cA, ty, ht, Or.inr ⟨rfl, _, rfl, fun jj hj => ?_⟩⟩
              have m1 := z_min_l lb vl
              have m2 := z_min_r lb vl
              have m3 := z_max_l hb0 vh
              have m4 := z_max_r hb0 vh
              have b := hb jj hj
              unfold vp_updL
              split <;> omega
            exact kk _ (List.mem_singleton.mpr rfl) ρ _ lv st H1 locs1 ls ((hg.stk hs).set h1 hc hP hD hS)
        · cases h
      · cases h
    · cases h
  · cases h
/-- a cell out of an array of references: place by place -/
def z_ar (pc : Nat) (ivs : List zI) (lo : List (Nat × zV)) (sk : List zV) (hp : List zC) (nc ns : Nat) : zQ := match sk with
  | (0, x, c) :: (2, j, _) :: sk => match hp[j]? with
    | some (.inr (.inr (t, es))) => match Nat.ble 4 t && z_ix ivs x c es.length with
      | true => some ((List.range es.length).flatMap (fun k => match es[k]? with
        | some a => z_go (z_asm false .eq ivs x c 0 (Int.ofNat k)) pc lo (a :: sk) hp nc ns
        | none => []))
      | false => none
    | _ => none
  | _ => none
theorem zs_ar {n : Nat} (row : ∀ (ws : va_W) (H : Heap) (locs : List Loc) (ls : Array Slot) (rest : List Value) (a q0 t0 n0 : Nat) (cA : ClassId) (ty : FieldType) (f : Nat → Option Nat) (i : Int32), va_P D cl ws H → ws[q0]? = some (a, .inl (cA, n0, .inr (.inr (.inr (.inr f))))) → 4 ≤ t0 → tys[t0]? = some (cA, ty) → vp_in i n0 → W p l e R s m args below meth c H locs nc ns Q (F0 m n ls (va_rf (f i.toNatClampNeg) :: rest)) → W p l e R s m args below meth c H locs nc ns Q (F0 m pc ls (.int i :: .ref a :: rest)))
    (h : z_ar n ivs lo sk hp nc ns = some q) (kk : ∀ z ∈ q, z_K p l e R s m args below meth c Q D cl tys A H0 nL ρ0 ad0 z.1 z.2) : z_K p l e R s m args below meth c Q D cl tys A H0 nL ρ0 ad0 pc (ivs, lo, sk, hp, nc, ns) := by
  unfold z_ar at h
  split at h
  · rename_i x c0 j o sk
    split at h
    · rename_i t es ec
      split at h
      · rename_i et
        have e1 := Nat.le_of_ble_eq_true (z_and et).1
        have e2 := (z_and et).2
        cases h
        intro ρ ws lv st H locs ls hg
        obtain ⟨v2, v1, st, rfl, hv2, hv1, hs⟩ := hg.xsk.c2
        obtain ⟨i, rfl, hi⟩ := hv2
        obtain ⟨ad, ee, h1, rfl, h2⟩ := z_cell hg.xhp hv1 ec
        have hin := z_ix_ok hg.xiv hi e2
        obtain ⟨cA, ty, ht, ⟨h3, -⟩ | ⟨-, f, rfl, hb⟩⟩ := h2
        · omega
        · have ea : es[i.toNatClampNeg]? = some es[i.toNatClampNeg] := List.getElem?_eq_getElem hin.2.1
          obtain ⟨iv, h3, h4⟩ := z_asm_ok (both := false) (cd := .eq) (c := c0) (d := Int.ofNat i.toNatClampNeg) (Y := Int.ofNat i.toNatClampNeg) hg.xiv hi (z_v.of0 hg.zero _) (show i.toInt = Int.ofNat _ from hin.2.2.symm)
          refine row ws H locs ls st ad j t es.length cA ty f i hg.xP h1 e1 ht hin.1 (kk (n, (iv, lo, es[i.toNatClampNeg] :: sk, hp, nc, ns)) ?_ ρ ws lv _ H locs ls (((hg.stk hs).more (List.prefix_refl _) h4).stk ⟨hb _ _ ea, hs⟩))
          refine List.mem_flatMap.mpr ⟨i.toNatClampNeg, List.mem_range.mpr hin.2.1, ?_⟩
          rw [ea]
          exact List.mem_map.mpr ⟨iv, h3, rfl⟩
      · cases h
    · cases h
  · cases h
/-- a cell into an array of references, at a place that is known -/
def z_sr (ok : Nat → Nat → Bool) (pc : Nat) (ivs : List zI) (lo : List (Nat × zV)) (sk : List zV) (hp : List zC) (nc ns : Nat) : zQ := match sk with
  | (2, v, o) :: (0, 0, k) :: (2, j, _) :: sk => match hp[j]?, hp[v]? with
    | some (.inr (.inr (t, es))), some (.inl (ci, _)) => match ok t ci && (Nat.ble 4 t && z_ix ivs 0 k es.length) with
      | true => some [(pc, (ivs, lo, sk, hp.set j (.inr (.inr (t, es.set k.toNat (2, v, o)))), nc, ns))]
      | false => none
    | _, _ => none
  | _ => none
theorem zs_sr {n : Nat} {ok : Nat → Nat → Bool} (row : ∀ (ws : va_W) (H : Heap) (locs : List Loc) (ls : Array Slot) (rest : List Value) (a q0 t0 n0 v qk ci : Nat) (cA : ClassId) (ty : FieldType) (f : Nat → Option Nat) (vs : List Value) (i : Int32), va_P D cl ws H → va_D A ws → va_S A H0 H locs → ws[q0]? = some (a, .inl (cA, n0, .inr (.inr (.inr (.inr f))))) → tys[t0]? = some (cA, ty) → ws[qk]? = some (v, .inr (ci, vs)) → ok t0 ci = true → 4 ≤ t0 → vp_in i n0 →
      (∀ (H1 : Heap) (locs1 : List Loc), va_P D cl (ws.set q0 (a, .inl (cA, n0, .inr (.inr (.inr (.inr (va_up f i.toNatClampNeg (some v)))))))) H1 → va_D A (ws.set q0 (a, .inl (cA, n0, .inr (.inr (.inr (.inr (va_up f i.toNatClampNeg (some v)))))))) → va_S A H0 H1 locs1 → W p l e R s m args below meth c H1 locs1 nc ns Q (F0 m n ls rest)) → W p l e R s m args below meth c H locs nc ns Q (F0 m pc ls (.ref v :: .int i :: .ref a :: rest)))
    (h : z_sr ok n ivs lo sk hp nc ns = some q) (kk : ∀ z ∈ q, z_K p l e R s m args below meth c Q D cl tys A H0 nL ρ0 ad0 z.1 z.2) : z_K p l e R s m args below meth c Q D cl tys A H0 nL ρ0 ad0 pc (ivs, lo, sk, hp, nc, ns) := by
  unfold z_sr at h
  split at h
  · rename_i v o k0 j o2 sk
    split at h
    · rename_i t es ci fs ec ev
      split at h
      · rename_i et
        have e1 := (z_and et).1
        have e4 := Nat.le_of_ble_eq_true (z_and (z_and et).2).1
        have e2 := (z_and (z_and et).2).2
        cases h
        intro ρ ws lv st H locs ls hg
        obtain ⟨v3, v2, v1, st, rfl, hv3, hv2, hv1, hs⟩ := hg.xsk.c3
        obtain ⟨i, rfl, hi⟩ := hv2
        obtain ⟨ad, ee, h1, rfl, h2⟩ := z_cell hg.xhp hv1 ec
        obtain ⟨ad3, ee3, h13, rfl, h23⟩ := z_cell hg.xhp hv3 ev
        obtain ⟨vs, rfl, -⟩ := h23
        have hin := z_ix_ok hg.xiv hi e2
        have ei := z_v.const hg.zero hi
        have ek : k0.toNat = i.toNatClampNeg := by
          show k0.toNat = i.toInt.toNat
          rw [ei]
        obtain ⟨cA, ty, ht, ⟨h3, -⟩ | ⟨h3, f, rfl, hb⟩⟩ := h2
        · omega
        · refine row ws H locs ls st ad j t es.length ad3 v ci cA ty f vs i hg.xP hg.xD hg.xS h1 ht h13 e1 e4 hin.1 (fun H1 locs1 hP hD hS => ?_)
          have hc : z_c tys ρ (z_ad ws) (.inr (.inr (t, es.set k0.toNat (2, v, o)))) (.inl (cA, es.length, .inr (.inr (.inr (.inr (va_up f i.toNatClampNeg (some ad3))))))) := by
            refine ⟨cA, ty, ht, Or.inr ⟨h3, _, by rw [List.length_set], fun jj a ha => ?_⟩⟩
            rw [ek] at ha
            by_cases hj : i.toNatClampNeg = jj
            · subst hj
              rw [List.getElem?_set_self hin.2.1] at ha
              cases ha
              rw [va_up_self]
              exact ⟨ad3, z_ad_get h13, rfl⟩
            · rw [List.getElem?_set_ne hj] at ha
              rw [va_up_ne _ _ (Ne.symm hj)]
              exact hb jj a ha
          exact kk _ (List.mem_singleton.mpr rfl) ρ _ lv st H1 locs1 ls ((hg.stk hs).set h1 hc hP hD hS)
      · cases h
    · cases h
  · cases h
/-- a new cell of the world -/
theorem z_g.push {H1 : Heap} {a : Nat} {e1 : va_E} {cell : zC} {nc' ns' : Nat} (h : z_g D cl tys A H0 nL ρ0 ad0 (ivs, lo, sk, hp, nc, ns) ρ ws lv st H locs ls) (hc : z_c tys ρ (z_ad ws ++ [a]) cell e1) (hP : va_P D cl (ws ++ [(a, e1)]) H1) (hD : va_D A (ws ++ [(a, e1)])) (hS : va_S A H0 H1 locs) :
    z_g D cl tys A H0 nL ρ0 ad0 (ivs, lo, (2, hp.length, 0) :: sk, hp ++ [cell], nc', ns') ρ (ws ++ [(a, e1)]) lv (.ref a :: st) H1 locs ls := by
  obtain ⟨⟨a1, a3, a4⟩, b1, b3, b4, b5, b6, b7, b8, b9⟩ := h
  have ead : z_ad (ws ++ [(a, e1)]) = z_ad ws ++ [a] := z_ad_app _ _
  have el : hp.length = (z_ad ws).length := by
    unfold z_ad
    rw [List.length_map]
    exact b5.len
  refine ⟨⟨a1, by rw [ead]; exact a3.trans (z_app_pre _ _), a4⟩, b1, ?_, ⟨⟨a, ?_, rfl⟩, ?_⟩, ?_, hP, hD, hS, b9⟩
  · rw [ead]
    exact b3.mono (fun _ _ k => ⟨k.1, k.2.mono (List.prefix_refl _) (z_app_pre _ _)⟩)
  · rw [ead]
    exact z_last a el.symm
  · rw [ead]
    exact b4.mono (fun _ _ k => k.mono (List.prefix_refl _) (z_app_pre _ _))
  · rw [ead]
    exact z_F.app (l2 := [cell]) (k2 := [(a, e1)]) ⟨hc, trivial⟩ (b5.mono (fun _ _ k => z_c.mono (List.prefix_refl _) (z_app_pre _ _) k))
end ZB
end
section
/-! ===== more steps: the stack, jumps, switches, lengths, new cells, copies ===== -/
theorem z_cat1 {ρ : List Int} {ad : List Nat} {a : zV} {v : Value} (h : z_m ρ ad a v) (e : Nat.beq a.1 1 = false) : v.category = 1 := by
  have h1 := z_m.cat h
  have h2 : (a.1 == 1) = false := by
    cases hq : (a.1 == 1)
    · rfl
    · rw [eq_of_beq hq] at e
      cases e
  rw [h2] at h1
  rcases lv_cat v with h3 | h3
  · exact h3
  · rw [h3] at h1
    cases h1
def z_tg (pc : Nat) (off : Int) : Option Nat := match z_ile 0 (Int.ofNat pc + off) with
  | true => some (Int.ofNat pc + off).toNat
  | false => none
theorem z_tg_ok {pc t : Nat} {off : Int} (h : z_tg pc off = some t) : (pc : Int) + off = (t : Int) := by
  unfold z_tg at h
  split at h
  · rename_i e
    have e := z_ile_ok e
    cases h
    have e1 : (Int.ofNat pc + off) = (pc : Int) + off := rfl
    rw [e1] at e ⊢
    omega
  · cases h
section ZC
variable {p : Program} {l : Launch} {e : Env} {R : Room} {s : State} {m : MethodId} {args : Array Value} {below : List Frame} {meth : Method} {c : Code} {Q : State → Prop} {D : va_G} {cl : List vw_C} {tys : List (ClassId × FieldType)} {A : Nat → Prop} {H0 : Heap} {nL : Nat} {ρ0 : List Int} {ad0 : List Nat}
variable {cc : ByteArray} {pc : Nat} {ivs : List zI} {lo : List (Nat × zV)} {sk : List zV} {hp : List zC} {nc ns : Nat} {q : List (Nat × zS)}
variable {ρ : List Int} {ws : va_W} {lv : List (Nat × Value)} {st st' : List Value} {H : Heap} {locs : List Loc} {ls : Array Slot} {sk' : List zV}
def z_dup (pc : Nat) (ivs : List zI) (lo : List (Nat × zV)) (sk : List zV) (hp : List zC) (nc ns : Nat) : zQ := match sk with
  | a :: sk => match Nat.beq a.1 1 with
    | true => none
    | false => some [(pc, (ivs, lo, a :: a :: sk, hp, nc, ns))]
  | [] => none
theorem zs_dup {n : Nat} (row : ∀ (H : Heap) (locs : List Loc) (ls : Array Slot) (rest : List Value) (v : Value), v.category = 1 → W p l e R s m args below meth c H locs nc ns Q (F0 m n ls (v :: v :: rest)) → W p l e R s m args below meth c H locs nc ns Q (F0 m pc ls (v :: rest)))
    (h : z_dup n ivs lo sk hp nc ns = some q) (k : ∀ z ∈ q, z_K p l e R s m args below meth c Q D cl tys A H0 nL ρ0 ad0 z.1 z.2) : z_K p l e R s m args below meth c Q D cl tys A H0 nL ρ0 ad0 pc (ivs, lo, sk, hp, nc, ns) := by
  unfold z_dup at h
  split at h
  · rename_i a sk
    split at h
    · cases h
    · rename_i ea
      cases h
      intro ρ ws lv st H locs ls hg
      obtain ⟨v, st, rfl, hv, hs⟩ := hg.xsk.c1
      exact row H locs ls st v (z_cat1 hv ea) (k _ (List.mem_singleton.mpr rfl) ρ ws lv _ H locs ls (hg.stk ⟨hv, hv, hs⟩))
  · cases h
def z_dup2 (pc : Nat) (ivs : List zI) (lo : List (Nat × zV)) (sk : List zV) (hp : List zC) (nc ns : Nat) : zQ := match sk with
  | a :: b :: sk => match Nat.beq a.1 1 || Nat.beq b.1 1 with
    | true => none
    | false => some [(pc, (ivs, lo, a :: b :: a :: b :: sk, hp, nc, ns))]
  | _ => none
theorem zs_dup2 {n : Nat} (row : ∀ (H : Heap) (locs : List Loc) (ls : Array Slot) (rest : List Value) (v w : Value), v.category = 1 → w.category = 1 → W p l e R s m args below meth c H locs nc ns Q (F0 m n ls (v :: w :: v :: w :: rest)) → W p l e R s m args below meth c H locs nc ns Q (F0 m pc ls (v :: w :: rest)))
    (h : z_dup2 n ivs lo sk hp nc ns = some q) (k : ∀ z ∈ q, z_K p l e R s m args below meth c Q D cl tys A H0 nL ρ0 ad0 z.1 z.2) : z_K p l e R s m args below meth c Q D cl tys A H0 nL ρ0 ad0 pc (ivs, lo, sk, hp, nc, ns) := by
  unfold z_dup2 at h
  split at h
  · rename_i a b sk
    split at h
    · cases h
    · rename_i ea
      have ea := Bool.or_eq_false_iff.mp ea
      cases h
      intro ρ ws lv st H locs ls hg
      obtain ⟨v, w, st, rfl, hv, hw, hs⟩ := hg.xsk.c2
      exact row H locs ls st v w (z_cat1 hv ea.1) (z_cat1 hw ea.2) (k _ (List.mem_singleton.mpr rfl) ρ ws lv _ H locs ls (hg.stk ⟨hv, hw, hv, hw, hs⟩))
  · cases h
def z_pop (pc : Nat) (ivs : List zI) (lo : List (Nat × zV)) (sk : List zV) (hp : List zC) (nc ns : Nat) : zQ := match sk with
  | a :: sk => match Nat.beq a.1 1 with
    | true => none
    | false => some [(pc, (ivs, lo, sk, hp, nc, ns))]
  | _ => none
theorem zs_pop {n : Nat} (row : ∀ (H : Heap) (locs : List Loc) (ls : Array Slot) (rest : List Value) (v : Value), v.category = 1 → W p l e R s m args below meth c H locs nc ns Q (F0 m n ls rest) → W p l e R s m args below meth c H locs nc ns Q (F0 m pc ls (v :: rest)))
    (h : z_pop n ivs lo sk hp nc ns = some q) (k : ∀ z ∈ q, z_K p l e R s m args below meth c Q D cl tys A H0 nL ρ0 ad0 z.1 z.2) : z_K p l e R s m args below meth c Q D cl tys A H0 nL ρ0 ad0 pc (ivs, lo, sk, hp, nc, ns) := by
  unfold z_pop at h
  split at h
  · rename_i a sk
    split at h
    · cases h
    · rename_i ea
      cases h
      intro ρ ws lv st H locs ls hg
      obtain ⟨v, st, rfl, hv, hs⟩ := hg.xsk.c1
      exact row H locs ls st v (z_cat1 hv ea) (k _ (List.mem_singleton.mpr rfl) ρ ws lv _ H locs ls (hg.stk hs))
  · cases h
def z_gt (t : Option Nat) (ivs : List zI) (lo : List (Nat × zV)) (sk : List zV) (hp : List zC) (nc ns : Nat) : zQ := match t with
  | some t => some [(t, (ivs, lo, sk, hp, nc, ns))]
  | none => none
theorem zs_gt {t : Option Nat} (row : ∀ (t' : Nat) (H : Heap) (locs : List Loc) (ls : Array Slot) (rest : List Value), t = some t' → W p l e R s m args below meth c H locs nc ns Q (F0 m t' ls rest) → W p l e R s m args below meth c H locs nc ns Q (F0 m pc ls rest))
    (h : z_gt t ivs lo sk hp nc ns = some q) (k : ∀ z ∈ q, z_K p l e R s m args below meth c Q D cl tys A H0 nL ρ0 ad0 z.1 z.2) : z_K p l e R s m args below meth c Q D cl tys A H0 nL ρ0 ad0 pc (ivs, lo, sk, hp, nc, ns) := by
  unfold z_gt at h
  split at h
  · rename_i t' 
    cases h
    intro ρ ws lv st H locs ls hg
    exact row t' H locs ls st rfl (k _ (List.mem_singleton.mpr rfl) ρ ws lv _ H locs ls hg)
  · cases h
/-- a table of ways -/
def z_tsw (dflt a b : Int) (offs : List Int) (pc : Nat) (ivs : List zI) (lo : List (Nat × zV)) (sk : List zV) (hp : List zC) (nc ns : Nat) : zQ := match sk with
  | (0, x, c) :: sk => match z_tg pc dflt, z_ieq (Int.ofNat offs.length + a) (b + 1) && offs.all (fun o => z_ile 0 (Int.ofNat pc + o)) with
    | some dt, true => some (((List.range offs.length).flatMap (fun k => match offs[k]? with
        | some o => z_go (z_asm false .eq ivs x c 0 (a + Int.ofNat k)) (Int.ofNat pc + o).toNat lo sk hp nc ns
        | none => [])) ++ (z_go (z_asm false .lt ivs x c 0 a) dt lo sk hp nc ns ++ z_go (z_asm false .gt ivs x c 0 b) dt lo sk hp nc ns))
    | _, _ => none
  | _ => none
theorem zs_tsw {dflt a b : Int} {offs : Array Int} (rowO : ∀ (dt : Nat) (H : Heap) (locs : List Loc) (ls : Array Slot) (rest : List Value) (x : Int32), (pc : Int) + dflt = (dt : Int) → x.toInt < a ∨ b < x.toInt → W p l e R s m args below meth c H locs nc ns Q (F0 m dt ls rest) → W p l e R s m args below meth c H locs nc ns Q (F0 m pc ls (.int x :: rest)))
    (rowI : ∀ (t : Nat) (o : Int) (H : Heap) (locs : List Loc) (ls : Array Slot) (rest : List Value) (x : Int32), (pc : Int) + o = (t : Int) → ¬ x.toInt < a → ¬ b < x.toInt → offs[(x.toInt - a).toNat]? = some o → W p l e R s m args below meth c H locs nc ns Q (F0 m t ls rest) → W p l e R s m args below meth c H locs nc ns Q (F0 m pc ls (.int x :: rest)))
    (h : z_tsw dflt a b offs.toList pc ivs lo sk hp nc ns = some q) (k : ∀ z ∈ q, z_K p l e R s m args below meth c Q D cl tys A H0 nL ρ0 ad0 z.1 z.2) : z_K p l e R s m args below meth c Q D cl tys A H0 nL ρ0 ad0 pc (ivs, lo, sk, hp, nc, ns) := by
  unfold z_tsw at h
  split at h
  · rename_i x c0 sk
    split at h
    · rename_i dt ed et
      have e1 := z_ieq_ok (z_and et).1
      have e2 := (z_and et).2
      have ed := z_tg_ok ed
      cases h
      intro ρ ws lv st H locs ls hg
      obtain ⟨v, st, rfl, hv, hs⟩ := hg.xsk.c1
      obtain ⟨X, rfl, hX⟩ := hv
      by_cases h1 : X.toInt < a
      · obtain ⟨i, g1, g2⟩ := z_asm_ok (both := false) (cd := .lt) (d := a) (Y := a) hg.xiv hX (z_v.of0 hg.zero _) h1
        exact rowO dt H locs ls st X ed (Or.inl h1) (k (dt, (i, lo, sk, hp, nc, ns)) (List.mem_append_right _ (List.mem_append_left _ (List.mem_map.mpr ⟨i, g1, rfl⟩))) ρ ws lv st H locs ls ((hg.stk hs).more (List.prefix_refl _) g2))
      · by_cases h2 : b < X.toInt
        · obtain ⟨i, g1, g2⟩ := z_asm_ok (both := false) (cd := .gt) (d := b) (Y := b) hg.xiv hX (z_v.of0 hg.zero _) h2
          exact rowO dt H locs ls st X ed (Or.inr h2) (k (dt, (i, lo, sk, hp, nc, ns)) (List.mem_append_right _ (List.mem_append_right _ (List.mem_map.mpr ⟨i, g1, rfl⟩))) ρ ws lv st H locs ls ((hg.stk hs).more (List.prefix_refl _) g2))
        · have e1 : ((offs.toList.length : Nat) : Int) + a = b + 1 := e1
          have hlt : (X.toInt - a).toNat < offs.toList.length := by omega
          have eo : offs.toList[(X.toInt - a).toNat]? = some offs.toList[(X.toInt - a).toNat] := List.getElem?_eq_getElem hlt
          generalize offs.toList[(X.toInt - a).toNat] = o at eo
          have ho := z_ile_ok (List.all_eq_true.mp e2 o (List.mem_of_getElem? eo))
          have et : (pc : Int) + o = (((Int.ofNat pc + o).toNat : Nat) : Int) := by
            have e3 : (Int.ofNat pc + o) = (pc : Int) + o := rfl
            rw [e3] at ho ⊢
            omega
          have ek : X.toInt = a + Int.ofNat (X.toInt - a).toNat := by
            show X.toInt = a + (((X.toInt - a).toNat : Nat) : Int)
            omega
          obtain ⟨i, g1, g2⟩ := z_asm_ok (both := false) (cd := .eq) (d := a + Int.ofNat (X.toInt - a).toNat) (Y := a + Int.ofNat (X.toInt - a).toNat) hg.xiv hX (z_v.of0 hg.zero _) ek
          refine rowI _ o H locs ls st X et h1 h2 (by rw [← Array.getElem?_toList]; exact eo) (k ((Int.ofNat pc + o).toNat, (i, lo, sk, hp, nc, ns)) (List.mem_append_left _ (List.mem_flatMap.mpr ⟨(X.toInt - a).toNat, List.mem_range.mpr hlt, ?_⟩)) ρ ws lv st H locs ls ((hg.stk hs).more (List.prefix_refl _) g2))
          rw [eo]
          exact List.mem_map.mpr ⟨i, g1, rfl⟩
    · cases h
  · cases h
/-- how long an array is -/
def z_len (pc : Nat) (ivs : List zI) (lo : List (Nat × zV)) (sk : List zV) (hp : List zC) (nc ns : Nat) : zQ := match sk with
  | (2, j, _) :: sk => match hp[j]? with
    | some (.inr (.inl (_, n, _, _))) => match Nat.ble n 2147483647 with
      | true => some [(pc, (ivs, lo, (0, 0, Int.ofNat n) :: sk, hp, nc, ns))]
      | false => none
    | some (.inr (.inr (_, es))) => match Nat.ble es.length 2147483647 with
      | true => some [(pc, (ivs, lo, (0, 0, Int.ofNat es.length) :: sk, hp, nc, ns))]
      | false => none
    | _ => none
  | _ => none
theorem z_ofN {n : Nat} (h : n ≤ 2147483647) : (Int32.ofNat n).toInt = (n : Int) := nI_toInt (show n < 2 ^ 31 by omega)
theorem zs_len {n : Nat} (row : ∀ (ws : va_W) (H : Heap) (locs : List Loc) (ls : Array Slot) (rest : List Value) (a q0 t0 : Nat) (cA : ClassId) (ty : FieldType) (x : vp_A), va_P D cl ws H → ws[q0]? = some (a, .inl (cA, x)) → tys[t0]? = some (cA, ty) → W p l e R s m args below meth c H locs nc ns Q (F0 m n ls (.int (Int32.ofNat x.1) :: rest)) → W p l e R s m args below meth c H locs nc ns Q (F0 m pc ls (.ref a :: rest)))
    (h : z_len n ivs lo sk hp nc ns = some q) (kk : ∀ z ∈ q, z_K p l e R s m args below meth c Q D cl tys A H0 nL ρ0 ad0 z.1 z.2) : z_K p l e R s m args below meth c Q D cl tys A H0 nL ρ0 ad0 pc (ivs, lo, sk, hp, nc, ns) := by
  unfold z_len at h
  split at h
  · rename_i j o sk
    split at h
    · rename_i t n0 lb hb ec
      split at h
      · rename_i en
        have en := Nat.le_of_ble_eq_true en
        cases h
        intro ρ ws lv st H locs ls hg
        obtain ⟨v1, st, rfl, hv1, hs⟩ := hg.xsk.c1
        obtain ⟨ad, ee, h1, rfl, h2⟩ := z_cell hg.xhp hv1 ec
        obtain ⟨cA, ty, ht, ⟨-, f, rfl, -⟩ | ⟨-, f, rfl, -⟩⟩ := h2
        · exact row ws H locs ls st ad j t cA ty _ hg.xP h1 ht (kk _ (List.mem_singleton.mpr rfl) ρ ws lv _ H locs ls (hg.stk ⟨⟨_, rfl, by rw [z_ofN en]; exact z_v.of0 hg.zero _⟩, hs⟩))
        · exact row ws H locs ls st ad j t cA ty _ hg.xP h1 ht (kk _ (List.mem_singleton.mpr rfl) ρ ws lv _ H locs ls (hg.stk ⟨⟨_, rfl, by rw [z_ofN en]; exact z_v.of0 hg.zero _⟩, hs⟩))
      · cases h
    · rename_i t es ec
      split at h
      · rename_i en
        have en := Nat.le_of_ble_eq_true en
        cases h
        intro ρ ws lv st H locs ls hg
        obtain ⟨v1, st, rfl, hv1, hs⟩ := hg.xsk.c1
        obtain ⟨ad, ee, h1, rfl, h2⟩ := z_cell hg.xhp hv1 ec
        obtain ⟨cA, ty, ht, ⟨-, f, rfl, -⟩ | ⟨-, f, rfl, -⟩⟩ := h2
        · exact row ws H locs ls st ad j t cA ty _ hg.xP h1 ht (kk _ (List.mem_singleton.mpr rfl) ρ ws lv _ H locs ls (hg.stk ⟨⟨_, rfl, by rw [z_ofN en]; exact z_v.of0 hg.zero _⟩, hs⟩))
        · exact row ws H locs ls st ad j t cA ty _ hg.xP h1 ht (kk _ (List.mem_singleton.mpr rfl) ρ ws lv _ H locs ls (hg.stk ⟨⟨_, rfl, by rw [z_ofN en]; exact z_v.of0 hg.zero _⟩, hs⟩))
      · cases h
    · cases h
  · cases h
/-- a new object -/
def z_dv (t : Nat) : Value := match t with
  | 0 => .int 0
  | 1 => .long 0
  | _ => .null
def z_da (t : Nat) : zV := match t with
  | 0 => (0, 0, 0)
  | 1 => (1, 0, 0)
  | _ => (3, 0, 0)
theorem z_dF {ρ : List Int} {ad : List Nat} (h0 : ρ[0]? = some 0) : ∀ dc : List Nat, z_F (z_m ρ ad) (dc.map z_da) (dc.map z_dv)
  | [] => trivial
  | t :: dc => by
    refine ⟨?_, z_dF h0 dc⟩
    match t with
    | 0 => exact ⟨0, rfl, z_v.of0 h0 0⟩
    | 1 => exact ⟨0, rfl, z_v.of0 h0 0⟩
    | _ + 2 => exact rfl
def z_nw (RC RS ci : Nat) (dc : List Nat) (pc : Nat) (ivs : List zI) (lo : List (Nat × zV)) (sk : List zV) (hp : List zC) (nc ns : Nat) : zQ := match Nat.ble (nc + 1) RC && Nat.ble (ns + dc.length) RS with
  | true => some [(pc, (ivs, lo, (2, hp.length, 0) :: sk, hp ++ [.inl (ci, dc.map z_da)], nc + 1, ns + dc.length))]
  | false => none
theorem zs_nw {n RC RS ci : Nat} {dc : List Nat} (row : ∀ (ws : va_W) (H : Heap) (locs : List Loc) (ls : Array Slot) (rest : List Value), va_P D cl ws H → va_D A ws → va_S A H0 H locs → nc + 1 ≤ RC → ns + dc.length ≤ RS →
      (∀ (a : Nat) (H1 : Heap), va_P D cl (ws ++ [(a, .inr (ci, dc.map z_dv))]) H1 → va_D A (ws ++ [(a, .inr (ci, dc.map z_dv))]) → va_S A H0 H1 locs → W p l e R s m args below meth c H1 locs (nc + 1) (ns + dc.length) Q (F0 m n ls (.ref a :: rest))) → W p l e R s m args below meth c H locs nc ns Q (F0 m pc ls rest))
    (h : z_nw RC RS ci dc n ivs lo sk hp nc ns = some q) (kk : ∀ z ∈ q, z_K p l e R s m args below meth c Q D cl tys A H0 nL ρ0 ad0 z.1 z.2) : z_K p l e R s m args below meth c Q D cl tys A H0 nL ρ0 ad0 pc (ivs, lo, sk, hp, nc, ns) := by
  unfold z_nw at h
  split at h
  · rename_i et
    have e1 := Nat.le_of_ble_eq_true (z_and et).1
    have e2 := Nat.le_of_ble_eq_true (z_and et).2
    cases h
    intro ρ ws lv st H locs ls hg
    refine row ws H locs ls st hg.xP hg.xD hg.xS e1 e2 (fun a H1 hP hD hS => ?_)
    exact kk _ (List.mem_singleton.mpr rfl) ρ _ lv _ H1 locs ls (hg.push (cell := .inl (ci, dc.map z_da)) ⟨_, rfl, z_dF hg.zero dc⟩ hP hD hS)
  · cases h
/-- a new array of numbers: the kind's number, its length known -/
def z_na (RC RS t : Nat) (pc : Nat) (ivs : List zI) (lo : List (Nat × zV)) (sk : List zV) (hp : List zC) (nc ns : Nat) : zQ := match sk with
  | (0, 0, .ofNat n) :: sk => match Nat.ble (nc + 1) RC && (Nat.ble (ns + n) RS && (Nat.ble n 1000000 && Nat.ble t 3)) with
    | true => some [(pc, (ivs, lo, (2, hp.length, 0) :: sk, hp ++ [match Nat.ble n 5 && Nat.ble t 2 with
      | true => .inr (.inr (t, List.replicate n (0, 0, 0)))
      | false => .inr (.inl (t, n, 0, 0))], nc + 1, ns + n))]
    | false => none
  | _ => none
def z_a0 (t n : Nat) : vp_A := match t with
  | 3 => (n, .inr (.inl (fun _ => 0)))
  | _ => (n, .inl (fun _ => 0))
theorem zs_na {n RC RS t : Nat} (row : ∀ (ws : va_W) (H : Heap) (locs : List Loc) (ls : Array Slot) (rest : List Value) (i : Int32) (k : Nat), va_P D cl ws H → va_D A ws → va_S A H0 H locs → t ≤ 3 → k ≤ 1000000 → i.toInt = (k : Int) → nc + 1 ≤ RC → ns + k ≤ RS →
      (∀ (a : Nat) (cA : ClassId) (ty : FieldType) (H1 : Heap), tys[t]? = some (cA, ty) → va_P D cl (ws ++ [(a, .inl (cA, z_a0 t k))]) H1 → va_D A (ws ++ [(a, .inl (cA, z_a0 t k))]) → va_S A H0 H1 locs → W p l e R s m args below meth c H1 locs (nc + 1) (ns + k) Q (F0 m n ls (.ref a :: rest))) → W p l e R s m args below meth c H locs nc ns Q (F0 m pc ls (.int i :: rest)))
    (h : z_na RC RS t n ivs lo sk hp nc ns = some q) (kk : ∀ z ∈ q, z_K p l e R s m args below meth c Q D cl tys A H0 nL ρ0 ad0 z.1 z.2) : z_K p l e R s m args below meth c Q D cl tys A H0 nL ρ0 ad0 pc (ivs, lo, sk, hp, nc, ns) := by
  unfold z_na at h
  split at h
  · rename_i k0 sk
    split at h
    · rename_i et
      have e1 := Nat.le_of_ble_eq_true (z_and et).1
      have e2 := Nat.le_of_ble_eq_true (z_and (z_and et).2).1
      have e3 := Nat.le_of_ble_eq_true (z_and (z_and (z_and et).2).2).1
      have e4 := Nat.le_of_ble_eq_true (z_and (z_and (z_and et).2).2).2
      cases h
      intro ρ ws lv st H locs ls hg
      obtain ⟨v, st, rfl, hv, hs⟩ := hg.xsk.c1
      obtain ⟨i, rfl, hi⟩ := hv
      have ei : i.toInt = (k0 : Int) := z_v.const hg.zero hi
      refine row ws H locs ls st i k0 hg.xP hg.xD hg.xS e4 e3 ei e1 e2 (fun a cA ty H1 ht hP hD hS => ?_)
      refine kk _ (List.mem_singleton.mpr rfl) ρ _ lv _ H1 locs ls ((hg.stk hs).push ?_ hP hD hS)
      split
      · rename_i eb
        have eb1 := Nat.le_of_ble_eq_true (z_and eb).2
        refine ⟨cA, ty, ht, Or.inl ⟨by omega, fun _ => 0, ?_, fun j a0 ha => ?_⟩⟩
        · rw [List.length_replicate]
          unfold z_a0
          split
          · omega
          · rfl
        · rw [List.getElem?_replicate] at ha
          split at ha
          · cases ha
            exact ⟨0, rfl, z_v.of0 hg.zero 0⟩
          · cases ha
      · refine ⟨cA, ty, ht, ?_⟩
        unfold z_a0
        split
        · exact Or.inr ⟨rfl, fun _ => 0, rfl, fun j hj => ⟨Int.le_refl _, Int.le_refl _⟩⟩
        · rename_i hne
          refine Or.inl ⟨?_, fun _ => 0, rfl, fun j hj => ⟨Int.le_refl _, Int.le_refl _⟩⟩
          have : t ≠ 3 := fun q => hne q
          omega
    · cases h
  · cases h
/-- a new array of references -/
def z_nr (RC RS t : Nat) (pc : Nat) (ivs : List zI) (lo : List (Nat × zV)) (sk : List zV) (hp : List zC) (nc ns : Nat) : zQ := match sk with
  | (0, 0, .ofNat n) :: sk => match Nat.ble (nc + 1) RC && (Nat.ble (ns + n) RS && (Nat.ble n 1000000 && Nat.ble 4 t)) with
    | true => some [(pc, (ivs, lo, (2, hp.length, 0) :: sk, hp ++ [.inr (.inr (t, List.replicate n (3, 0, 0)))], nc + 1, ns + n))]
    | false => none
  | _ => none
theorem zs_nr {n RC RS t : Nat} (row : ∀ (ws : va_W) (H : Heap) (locs : List Loc) (ls : Array Slot) (rest : List Value) (i : Int32) (k : Nat), va_P D cl ws H → va_D A ws → va_S A H0 H locs → 4 ≤ t → k ≤ 1000000 → i.toInt = (k : Int) → nc + 1 ≤ RC → ns + k ≤ RS →
      (∀ (a : Nat) (cA : ClassId) (ty : FieldType) (H1 : Heap), tys[t]? = some (cA, ty) → va_P D cl (ws ++ [(a, .inl (cA, k, .inr (.inr (.inr (.inr (fun _ => none))))))]) H1 → va_D A (ws ++ [(a, .inl (cA, k, .inr (.inr (.inr (.inr (fun _ => none))))))]) → va_S A H0 H1 locs → W p l e R s m args below meth c H1 locs (nc + 1) (ns + k) Q (F0 m n ls (.ref a :: rest))) → W p l e R s m args below meth c H locs nc ns Q (F0 m pc ls (.int i :: rest)))
    (h : z_nr RC RS t n ivs lo sk hp nc ns = some q) (kk : ∀ z ∈ q, z_K p l e R s m args below meth c Q D cl tys A H0 nL ρ0 ad0 z.1 z.2) : z_K p l e R s m args below meth c Q D cl tys A H0 nL ρ0 ad0 pc (ivs, lo, sk, hp, nc, ns) := by
  unfold z_nr at h
  split at h
  · rename_i k0 sk
    split at h
    · rename_i et
      have e1 := Nat.le_of_ble_eq_true (z_and et).1
      have e2 := Nat.le_of_ble_eq_true (z_and (z_and et).2).1
      have e3 := Nat.le_of_ble_eq_true (z_and (z_and (z_and et).2).2).1
      have e4 := Nat.le_of_ble_eq_true (z_and (z_and (z_and et).2).2).2
      cases h
      intro ρ ws lv st H locs ls hg
      obtain ⟨v, st, rfl, hv, hs⟩ := hg.xsk.c1
      obtain ⟨i, rfl, hi⟩ := hv
      have ei : i.toInt = (k0 : Int) := z_v.const hg.zero hi
      refine row ws H locs ls st i k0 hg.xP hg.xD hg.xS e4 e3 ei e1 e2 (fun a cA ty H1 ht hP hD hS => ?_)
      refine kk _ (List.mem_singleton.mpr rfl) ρ _ lv _ H1 locs ls ((hg.stk hs).push ?_ hP hD hS)
      refine ⟨cA, ty, ht, Or.inr ⟨by omega, fun _ => none, ?_, fun j a0 ha => ?_⟩⟩
      · rw [List.length_replicate]
      · rw [List.getElem?_replicate] at ha
        split at ha
        · cases ha
          exact rfl
        · cases ha
    · cases h
  · cases h
/-- ints copied from an array to another -/
def z_cp (pc : Nat) (ivs : List zI) (lo : List (Nat × zV)) (sk : List zV) (hp : List zC) (nc ns : Nat) : zQ := match sk with
  | (0, 0, .ofNat n) :: (0, 0, .ofNat d) :: (2, j, _) :: (0, 0, .ofNat o) :: (2, i, _) :: sk => match hp[i]?, hp[j]? with
    | some (.inr (.inl (t0, n0, l0, h0))), some (.inr (.inl (t1, n1, l1, h1))) => match Nat.beq t0 0 && (Nat.beq t1 0 && (Nat.ble (o + n) n0 && Nat.ble (d + n) n1)) with
      | true => some [(pc, (ivs, lo, sk, hp.set j (.inr (.inl (t1, n1, z_min l1 l0, z_max h1 h0))), nc, ns))]
      | false => none
    | _, _ => none
  | _ => none
theorem zs_cp {n : Nat} (row : ∀ (ws : va_W) (H : Heap) (locs : List Loc) (ls : Array Slot) (rest : List Value) (a0 a q0 q1 : Nat) (n0 n1 : Nat) (cA : ClassId) (ty : FieldType) (f g : Nat → Int32) (kn kd ko : Int32) (lv : List (Nat × Value)), va_P D cl ws H → va_D A ws → va_S A H0 H locs → lv_has ls nL lv → ws[q0]? = some (a0, .inl (cA, n0, .inl f)) → ws[q1]? = some (a, .inl (cA, n1, .inl g)) → tys[0]? = some (cA, ty) → 0 ≤ kn.toInt → 0 ≤ kd.toInt → 0 ≤ ko.toInt → ko.toNatClampNeg + kn.toNatClampNeg ≤ n0 → kd.toNatClampNeg + kn.toNatClampNeg ≤ n1 → rest.length + 5 = sk.length →
      (∀ (H1 : Heap) (locs1 : List Loc), va_P D cl (ws.set q1 (a, .inl (cA, n1, .inl (va_cpy f g ko.toNatClampNeg kd.toNatClampNeg kn.toNatClampNeg)))) H1 → va_D A (ws.set q1 (a, .inl (cA, n1, .inl (va_cpy f g ko.toNatClampNeg kd.toNatClampNeg kn.toNatClampNeg)))) → va_S A H0 H1 locs1 → W p l e R s m args below meth c H1 locs1 nc ns Q (F0 m n ls rest)) → W p l e R s m args below meth c H locs nc ns Q (F0 m pc ls (.int kn :: .int kd :: .ref a :: .int ko :: .ref a0 :: rest)))
    (h : z_cp n ivs lo sk hp nc ns = some q) (kk : ∀ z ∈ q, z_K p l e R s m args below meth c Q D cl tys A H0 nL ρ0 ad0 z.1 z.2) : z_K p l e R s m args below meth c Q D cl tys A H0 nL ρ0 ad0 pc (ivs, lo, sk, hp, nc, ns) := by
  unfold z_cp at h
  split at h
  · rename_i kn kd j oj ko i oi sk
    split at h
    · rename_i t0 n0 l0 h0 t1 n1 l1 h1 eI eJ
      split at h
      · rename_i et
        have e0 : t0 = 0 := z_beq (z_and et).1
        have e1 : t1 = 0 := z_beq (z_and (z_and et).2).1
        have e2 := Nat.le_of_ble_eq_true (z_and (z_and (z_and et).2).2).1
        have e3 := Nat.le_of_ble_eq_true (z_and (z_and (z_and et).2).2).2
        subst e0
        subst e1
        cases h
        intro ρ ws lv st H locs ls hg
        obtain ⟨v5, v4, v3, st, rfl, hv5, hv4, hv3, hs⟩ := hg.xsk.c3
        obtain ⟨v2, v1, st2, rfl, hv2, hv1, hs2⟩ := hs.c2
        obtain ⟨In, rfl, hn⟩ := hv5
        obtain ⟨Id, rfl, hd⟩ := hv4
        obtain ⟨Io, rfl, ho⟩ := hv2
        obtain ⟨a0, ee0, g1, rfl, g2⟩ := z_cell hg.xhp hv1 eI
        obtain ⟨a1, ee1, g3, rfl, g4⟩ := z_cell hg.xhp hv3 eJ
        obtain ⟨cA, ty, ht, ⟨-, f, rfl, hb⟩ | ⟨h3, -⟩⟩ := g2
        · obtain ⟨cB, ty2, ht2, ⟨-, g, rfl, hb2⟩ | ⟨h3, -⟩⟩ := g4
          · rw [ht] at ht2
            cases ht2
            have en : In.toInt = (kn : Int) := z_v.const hg.zero hn
            have ed : Id.toInt = (kd : Int) := z_v.const hg.zero hd
            have eo : Io.toInt = (ko : Int) := z_v.const hg.zero ho
            have en2 : In.toNatClampNeg = kn := by show In.toInt.toNat = kn; omega
            have ed2 : Id.toNatClampNeg = kd := by show Id.toInt.toNat = kd; omega
            have eo2 : Io.toNatClampNeg = ko := by show Io.toInt.toNat = ko; omega
            refine row ws H locs ls st2 a0 a1 i j n0 n1 cA ty f g In Id Io lv hg.xP hg.xD hg.xS hg.xL g1 g3 ht (by omega) (by omega) (by omega) (by omega) (by omega) (by have := hs2.len; simp only [List.length_cons]; omega) (fun H1 locs1 hP hD hS => ?_)
            have hc : z_c tys ρ (z_ad ws) (.inr (.inl (0, n1, z_min l1 l0, z_max h1 h0))) (.inl (cA, n1, .inl (va_cpy f g Io.toNatClampNeg Id.toNatClampNeg In.toNatClampNeg))) := by
              refine ⟨cA, ty, ht, Or.inl ⟨by omega, _, rfl, fun jj hj => ?_⟩⟩
              have m1 := z_min_l l1 l0
              have m2 := z_min_r l1 l0
              have m3 := z_max_l h1 h0
              have m4 := z_max_r h1 h0
              by_cases hq : Id.toNatClampNeg ≤ jj ∧ jj < Id.toNatClampNeg + In.toNatClampNeg
              · rw [pk_cpy_in hq.1 hq.2]
                have b := hb (Io.toNatClampNeg + (jj - Id.toNatClampNeg)) (by omega)
                omega
              · rw [pk_cpy_out (by omega)]
                have b := hb2 jj hj
                omega
            exact kk _ (List.mem_singleton.mpr rfl) ρ _ lv st2 H1 locs1 ls ((hg.stk hs2).set g3 hc hP hD hS)
          · omega
        · omega
      · cases h
    · cases h
  · cases h
end ZC
end
section
/-! ===== numbers: what is known of a result ===== -/
def z_opc (t : Nat) (f : Int → Int → Int) (ivs : List zI) (x : Nat) (c : Int) (y : Nat) (d : Int) : Option (zV × List zI) := match Nat.beq x 0 && Nat.beq y 0 with
  | true => some ((t, 0, f c d), ivs)
  | false => some (z_top t ivs)
theorem z_opc_ok {g : Int32 → Int32 → Int32} {ivs : List zI} {ρ : List Int} {x y : Nat} {c d : Int} {X Y : Int32} {out : zV × List zI} (h : z_iv ivs ρ) (h0 : ρ[0]? = some 0) (hx : z_v ρ x c X.toInt) (hy : z_v ρ y d Y.toInt) (e : z_opc 0 (fun a b => (g (Int32.ofInt a) (Int32.ofInt b)).toInt) ivs x c y d = some out) : z_R 0 ρ out (g X Y).toInt := by
  unfold z_opc at e
  split at e
  · rename_i et
    have e1 := z_beq (z_and et).1
    have e2 := z_beq (z_and et).2
    subst e1
    subst e2
    cases e
    have f1 := z_v.const h0 hx
    have f2 := z_v.const h0 hy
    subst f1
    subst f2
    dsimp only
    rw [Int32.ofInt_toInt, Int32.ofInt_toInt]
    exact z_R.same h (z_v.of0 h0 _)
  · cases e
    exact z_top_ok h (z_rng _).1 (z_rng _).2
theorem z_opcL_ok {g : Int64 → Int64 → Int64} {ivs : List zI} {ρ : List Int} {x y : Nat} {c d : Int} {X Y : Int64} {out : zV × List zI} (h : z_iv ivs ρ) (h0 : ρ[0]? = some 0) (hx : z_v ρ x c X.toInt) (hy : z_v ρ y d Y.toInt) (e : z_opc 1 (fun a b => (g (Int64.ofInt a) (Int64.ofInt b)).toInt) ivs x c y d = some out) : z_R 1 ρ out (g X Y).toInt := by
  unfold z_opc at e
  split at e
  · rename_i et
    have e1 := z_beq (z_and et).1
    have e2 := z_beq (z_and et).2
    subst e1
    subst e2
    cases e
    have f1 := z_v.const h0 hx
    have f2 := z_v.const h0 hy
    subst f1
    subst f2
    dsimp only
    rw [Int64.ofInt_toInt, Int64.ofInt_toInt]
    exact z_R.same h (z_v.of0 h0 _)
  · cases e
    exact z_top_ok h (z_rngL _).1 (z_rngL _).2
/-- a number as it is, in another width, where it fits; else between bounds -/
def z_cst (t : Nat) (a b : Int) (ivs : List zI) (x : Nat) (c : Int) : Option (zV × List zI) := match z_b ivs x c with
  | some (l, h) => match z_ile a l && z_ile h b with
    | true => some ((t, x, c), ivs)
    | false => some ((t, ivs.length, 0), ivs ++ [(a, b)])
  | none => none
theorem z_cst_ok {t : Nat} {a b : Int} {ivs : List zI} {ρ : List Int} {x : Nat} {c z r : Int} {out : zV × List zI} (h : z_iv ivs ρ) (hv : z_v ρ x c z) (h1 : a ≤ z → z ≤ b → r = z) (h2 : a ≤ r ∧ r ≤ b) (e : z_cst t a b ivs x c = some out) : z_R t ρ out r := by
  unfold z_cst at e
  split at e
  · rename_i l u eb
    have hb := z_b_ok h hv eb
    split at e
    · rename_i et
      have e1 := z_ile_ok (z_and et).1
      have e2 := z_ile_ok (z_and et).2
      cases e
      have er := h1 (by omega) (by omega)
      subst er
      exact z_R.same h hv
    · cases e
      exact ⟨rfl, ρ ++ [r], z_app_pre _ _, h.app (b := (a, b)) h2.1 h2.2, h.last r⟩
  · cases e
/-! ===== a step ===== -/
abbrev zE : Type := Nat × Jvm.ClassFile.Instr × Nat × Nat × Nat × Nat × Int
abbrev zX : Type := List zI × List zV × List zC
/-- of a method: how many it is called with, whose it is (0: nobody's), what it answers, cells and slots that it makes, its locals, its code -/
abbrev zN : Type := Nat × Nat × Nat × Nat × Nat × Nat × List (List zE)
abbrev zL : Type := Nat → List zI → List zV → List zC → Option (List zX)
def z_cats (sk : List zV) : Nat := match sk with
  | [] => 0
  | a :: sk => match Nat.beq a.1 1 with
    | true => z_cats sk + 2
    | false => z_cats sk + 1
def z_pops (n : Nat) (sk acc : List zV) : Option (List zV × List zV) := match n with
  | 0 => some (acc, sk)
  | n + 1 => match sk with
    | a :: sk => z_pops n sk (a :: acc)
    | [] => none
def z_rcv (rc : Nat) (hp : List zC) (as : List zV) : Bool := match rc with
  | 0 => true
  | ci + 1 => match as with
    | (2, j, _) :: _ => match hp[j]? with
      | some (.inl (ci', _)) => Nat.beq ci' ci
      | _ => false
    | _ => false
def z_inv (ZD : List zN) (call : zL) (RC RS mi : Nat) (pc : Nat) (ivs : List zI) (lo : List (Nat × zV)) (sk : List zV) (hp : List zC) (nc ns : Nat) : zQ := match ZD[mi]? with
  | some (nA, rc, _, mc, ms, _, _) => match z_pops nA sk [] with
    | some (as, rest) => match Nat.ble (nc + mc) RC && (Nat.ble (ns + ms) RS && (Nat.ble (z_cats rest) 8 && z_rcv rc hp as)) with
      | true => match call mi ivs as hp with
        | some es => some (es.map (fun E => (pc, (E.1, lo, E.2.1 ++ rest, E.2.2, nc + mc, ns + ms))))
        | none => none
      | false => none
    | none => none
  | none => none
def z_lda (i : Nat) (pc : Nat) (ivs : List zI) (lo : List (Nat × zV)) (sk : List zV) (hp : List zC) (nc ns : Nat) : zQ := match z_ld 2 i pc ivs lo sk hp nc ns with
  | some q => some q
  | none => z_ld 4 i pc ivs lo sk hp nc ns
def z_sta (nL i : Nat) (pc : Nat) (ivs : List zI) (lo : List (Nat × zV)) (sk : List zV) (hp : List zC) (nc ns : Nat) : zQ := z_sto 2 nL i pc ivs lo sk hp nc ns
/-- the script: its number at a place that is known, its length -/
def z_sl (sc : Option Nat) (pc : Nat) (ivs : List zI) (lo : List (Nat × zV)) (sk : List zV) (hp : List zC) (nc ns : Nat) : zQ := match sc, sk with
  | some L, (0, 0, .ofNat k) :: (4, 7, _) :: sk => match Nat.ble (k + 1) L with
    | true => some [(pc, (ivs, lo, (0, k + 1, 0) :: sk, hp, nc, ns))]
    | false => none
  | _, _ => none
def z_sn (sc : Option Nat) (pc : Nat) (ivs : List zI) (lo : List (Nat × zV)) (sk : List zV) (hp : List zC) (nc ns : Nat) : zQ := match sc, sk with
  | some L, (4, 7, _) :: sk => match Nat.ble L 2147483647 with
    | true => some [(pc, (ivs, lo, (0, 0, Int.ofNat L) :: sk, hp, nc, ns))]
    | false => none
  | _, _ => none
def z_isc (sk : List zV) : Bool := match sk with
  | (4, _, _) :: _ => true
  | _ :: (4, _, _) :: _ => true
  | _ => false
def z_lsh (pc : Nat) (ivs : List zI) (lo : List (Nat × zV)) (sk : List zV) (hp : List zC) (nc ns : Nat) : zQ := match sk with
  | (0, _, _) :: (1, _, _) :: sk => match z_top 1 ivs with
    | (r, ivs') => some [(pc, (ivs', lo, r :: sk, hp, nc, ns))]
  | _ => none
def z_oi (pc : Nat) (ivs : List zI) (lo : List (Nat × zV)) (sk : List zV) (hp : List zC) (nc ns : Nat) : zQ := match sk with
  | (2, _, _) :: sk => match Nat.ble (z_cats sk) 8 with
    | true => some [(pc, (ivs, lo, sk, hp, nc, ns))]
    | false => none
  | _ => none
def z_cpy (pc : Nat) (ivs : List zI) (lo : List (Nat × zV)) (sk : List zV) (hp : List zC) (nc ns : Nat) : zQ := match Nat.ble sk.length 5 with
  | true => z_cp pc ivs lo sk hp nc ns
  | false => none
def z_okI (t : Nat) : Bool := Nat.beq t 0
def z_okB (t : Nat) : Bool := Nat.beq t 1 || Nat.beq t 2
def z_stI (t : Nat) (_ _ : Int) : Bool := Nat.beq t 0
def z_stB (t : Nat) (a b : Int) : Bool := (Nat.beq t 1 && (z_ile 0 a && z_ile b 1)) || (Nat.beq t 2 && (z_ile (-128) a && z_ile b 127))
def z_okR (TC : List Nat) (t ci : Nat) : Bool := match TC[t - 4]? with
  | some x => Nat.beq x ci
  | none => false
def z_lcm (nx : Option zE) (pc : Nat) (ivs : List zI) (lo : List (Nat × zV)) (sk : List zV) (hp : List zC) (nc ns : Nat) : zQ := match nx with
  | some (_, .ifCond cd off, _) => match z_tg (pc + 1) off with
    | some t => z_br2 1 true cd t (pc + 4) ivs lo sk hp nc ns
    | none => none
  | _ => none
def z_step (ZD : List zN) (call : zL) (RC RS nL : Nat) (sc : Option Nat) (DF : List (List Nat)) (TC : List Nat) (nx : Option zE) (pc : Nat) (ins : Jvm.ClassFile.Instr) (a b : Nat) (k : Int) (ivs : List zI) (lo : List (Nat × zV)) (sk : List zV) (hp : List zC) (nc ns : Nat) : zQ := match ins with
  | .aload_n i => z_lda i.val (pc + 1) ivs lo sk hp nc ns
  | .iload_n i => z_ld 0 i.val (pc + 1) ivs lo sk hp nc ns
  | .getfield _ => z_gf a b (pc + 3) ivs lo sk hp nc ns
  | .iconst n => z_psh (0, 0, (Int32.ofInt n).toInt) (pc + 1) ivs lo sk hp nc ns
  | .bipush n => z_psh (0, 0, (Int8.ofInt n).toInt32.toInt) (pc + 2) ivs lo sk hp nc ns
  | .sipush n => z_psh (0, 0, (Int16.ofInt n).toInt32.toInt) (pc + 3) ivs lo sk hp nc ns
  | .lconst n => z_psh (1, 0, (Int64.ofNat n.val).toInt) (pc + 1) ivs lo sk hp nc ns
  | .ldc _ => z_psh (0, 0, (Int32.ofInt k).toInt) (pc + 2) ivs lo sk hp nc ns
  | .ldc_w _ => z_psh (0, 0, (Int32.ofInt k).toInt) (pc + 3) ivs lo sk hp nc ns
  | .ldc2_w _ => z_psh (1, 0, (Int64.ofInt k).toInt) (pc + 3) ivs lo sk hp nc ns
  | .iload i => z_ld 0 i (pc + 2) ivs lo sk hp nc ns
  | .lload_n i => z_ld 1 i.val (pc + 1) ivs lo sk hp nc ns
  | .lload i => z_ld 1 i (pc + 2) ivs lo sk hp nc ns
  | .aload i => z_lda i (pc + 2) ivs lo sk hp nc ns
  | .istore_n i => z_sto 0 nL i.val (pc + 1) ivs lo sk hp nc ns
  | .istore i => z_sto 0 nL i (pc + 2) ivs lo sk hp nc ns
  | .lstore_n i => z_sto2 nL i.val (pc + 1) ivs lo sk hp nc ns
  | .lstore i => z_sto2 nL i (pc + 2) ivs lo sk hp nc ns
  | .astore_n i => z_sta nL i.val (pc + 1) ivs lo sk hp nc ns
  | .astore i => z_sta nL i (pc + 2) ivs lo sk hp nc ns
  | .iinc i n => z_inc nL i (Int32.ofInt n).toInt (pc + 3) ivs lo sk hp nc ns
  | .iadd => z_bin 0 (z_add 0) (pc + 1) ivs lo sk hp nc ns
  | .isub => z_bin 0 (z_sub 0) (pc + 1) ivs lo sk hp nc ns
  | .imul => z_bin 0 (z_mul 0) (pc + 1) ivs lo sk hp nc ns
  | .iand => z_bin 0 (z_opc 0 (fun a b => (Int32.ofInt a &&& Int32.ofInt b).toInt)) (pc + 1) ivs lo sk hp nc ns
  | .ior => z_bin 0 (z_opc 0 (fun a b => (Int32.ofInt a ||| Int32.ofInt b).toInt)) (pc + 1) ivs lo sk hp nc ns
  | .ixor => z_bin 0 (z_opc 0 (fun a b => (Int32.ofInt a ^^^ Int32.ofInt b).toInt)) (pc + 1) ivs lo sk hp nc ns
  | .ishl => z_bin 0 (z_opc 0 (fun a b => (Int32.ofInt a <<< (Int32.ofInt b &&& 31)).toInt)) (pc + 1) ivs lo sk hp nc ns
  | .ishr => z_bin 0 (z_opc 0 (fun a b => (Int32.ofInt a >>> (Int32.ofInt b &&& 31)).toInt)) (pc + 1) ivs lo sk hp nc ns
  | .ladd => z_bin 1 (z_add 1) (pc + 1) ivs lo sk hp nc ns
  | .lsub => z_bin 1 (z_sub 1) (pc + 1) ivs lo sk hp nc ns
  | .lmul => z_bin 1 (z_mul 1) (pc + 1) ivs lo sk hp nc ns
  | .land => z_bin 1 (z_opc 1 (fun a b => (Int64.ofInt a &&& Int64.ofInt b).toInt)) (pc + 1) ivs lo sk hp nc ns
  | .lor => z_bin 1 (z_opc 1 (fun a b => (Int64.ofInt a ||| Int64.ofInt b).toInt)) (pc + 1) ivs lo sk hp nc ns
  | .lshl => z_lsh (pc + 1) ivs lo sk hp nc ns
  | .i2l => z_un 0 1 (z_cst 1 (-2147483648) 2147483647) (pc + 1) ivs lo sk hp nc ns
  | .l2i => z_un 1 0 (z_cst 0 (-2147483648) 2147483647) (pc + 1) ivs lo sk hp nc ns
  | .i2b => z_un 0 0 (z_cst 0 (-128) 127) (pc + 1) ivs lo sk hp nc ns
  | .i2s => z_un 0 0 (z_cst 0 (-32768) 32767) (pc + 1) ivs lo sk hp nc ns
  | .lcmp => z_lcm nx pc ivs lo sk hp nc ns
  | .ifCond cd off => match z_tg pc off with
    | some t => z_br1 cd t (pc + 3) ivs lo sk hp nc ns
    | none => none
  | .if_icmp cd off => match z_tg pc off with
    | some t => z_br2 0 true cd t (pc + 3) ivs lo sk hp nc ns
    | none => none
  | .goto off => z_gt (z_tg pc off) ivs lo sk hp nc ns
  | .tableswitch d x y offs => z_tsw d x y offs.toList pc ivs lo sk hp nc ns
  | .dup => z_dup (pc + 1) ivs lo sk hp nc ns
  | .dup2 => z_dup2 (pc + 1) ivs lo sk hp nc ns
  | .pop => z_pop (pc + 1) ivs lo sk hp nc ns
  | .putfield _ => z_pf a b k.toNat (pc + 3) ivs lo sk hp nc ns
  | .iaload => match z_isc sk with
    | true => z_sl sc (pc + 1) ivs lo sk hp nc ns
    | false => z_al z_okI 0 (pc + 1) ivs lo sk hp nc ns
  | .baload => z_al z_okB 0 (pc + 1) ivs lo sk hp nc ns
  | .laload => z_alL (pc + 1) ivs lo sk hp nc ns
  | .aaload => z_ar (pc + 1) ivs lo sk hp nc ns
  | .iastore => z_as z_stI (pc + 1) ivs lo sk hp nc ns
  | .bastore => z_as z_stB (pc + 1) ivs lo sk hp nc ns
  | .lastore => z_asL (pc + 1) ivs lo sk hp nc ns
  | .aastore => z_sr (z_okR TC) (pc + 1) ivs lo sk hp nc ns
  | .arraylength => match z_isc sk with
    | true => z_sn sc (pc + 1) ivs lo sk hp nc ns
    | false => z_len (pc + 1) ivs lo sk hp nc ns
  | .new _ => match DF[a]? with
    | some dc => z_nw RC RS a dc (pc + 3) ivs lo sk hp nc ns
    | none => none
  | .newarray _ => z_na RC RS a (pc + 2) ivs lo sk hp nc ns
  | .anewarray _ => z_nr RC RS a (pc + 3) ivs lo sk hp nc ns
  | .invokevirtual _ => z_inv ZD call RC RS a (pc + 3) ivs lo sk hp nc ns
  | .invokestatic _ => match Nat.beq b 5 with
    | true => z_cpy (pc + 3) ivs lo sk hp nc ns
    | false => z_inv ZD call RC RS a (pc + 3) ivs lo sk hp nc ns
  | .invokespecial _ => match Nat.beq b 4 with
    | true => z_oi (pc + 3) ivs lo sk hp nc ns
    | false => z_inv ZD call RC RS a (pc + 3) ivs lo sk hp nc ns
  | _ => none
end
section
/-! ===== what a step rests on: links, tables, a frame ===== -/
def z_tt (t : Nat) : FieldType := match t with
  | 0 => .int
  | 1 => .boolean
  | 2 => .byte
  | _ => .long
def z_ftc (ty : FieldType) : Nat := match ty with
  | .int => 0
  | .boolean => 1
  | .long => 2
  | .object _ => 3
  | .array _ => 3
  | _ => 9
theorem z_ftc_ok {ty : FieldType} {v : Value} (h : z_tv (z_ftc ty) v) (h9 : z_ftc ty < 9) : narrow ty v = v ∧ fits ty v = true := by
  cases ty <;> (try (exact absurd h9 (by decide)))
  · obtain ⟨i, rfl⟩ := h
    exact ⟨rfl, rfl⟩
  · obtain ⟨i, rfl⟩ := h
    exact ⟨rfl, rfl⟩
  · rcases h with rfl | rfl
    · exact ⟨rfl, rfl⟩
    · exact ⟨rfl, rfl⟩
  · obtain ⟨i, rfl⟩ := h
    exact ⟨rfl, rfl⟩
  · obtain ⟨i, rfl⟩ := h
    exact ⟨rfl, rfl⟩
def z_wd (tbl : List Cond) (w : Nat) (x : Cond) : Bool := decide (tbl[w]? = some x)
theorem z_wd_ok {tbl : List Cond} {w : Nat} {x : Cond} (h : z_wd tbl w x = true) : x ∈ tbl := List.mem_of_getElem? (of_decide_eq_true h)
def z_lok (tbl : List Cond) (cl : List vw_C) (TY : Nat → Nat → FieldType) (TC : List Nat) (Y : Nat → MethodName) (VK : Nat → Nat) (HN own : String) (ini : Bool) (ins : Jvm.ClassFile.Instr) (ln a b w : Nat) (k : Int) : Bool := match ins with
  | .bipush _ => Nat.beq ln 2
  | .iload _ => Nat.beq ln 2
  | .lload _ => Nat.beq ln 2
  | .aload _ => Nat.beq ln 2
  | .istore _ => Nat.beq ln 2
  | .lstore _ => Nat.beq ln 2
  | .astore _ => Nat.beq ln 2
  | .newarray ty => Nat.beq ln 2 && (decide (newarray.typeOf ty = z_tt a) && (Nat.ble a 3 && z_wd tbl w (.arrayClass (z_tt a))))
  | .ldc i => Nat.beq ln 2 && z_wd tbl w (.constant own i (Int32.ofInt k))
  | .ldc_w i => Nat.beq ln 3 && z_wd tbl w (.constant own i (Int32.ofInt k))
  | .ldc2_w i => Nat.beq ln 3 && z_wd tbl w (.constantLong own i (Int64.ofInt k))
  | .sipush _ => Nat.beq ln 3
  | .ifCond _ _ => Nat.beq ln 3
  | .if_icmp _ _ => Nat.beq ln 3
  | .goto _ => Nat.beq ln 3
  | .iinc _ _ => Nat.beq ln 3
  | .getfield i => match cl[a]? with
    | some q => Nat.beq ln 3 && (Nat.ble (b + 1) q.2.2 && z_wd tbl w (.fieldLink own i (q.2.1 b).1 (q.2.1 b).2.1 (q.2.1 b).2.2.1))
    | none => false
  | .putfield i => match cl[a]? with
    | some q => Nat.beq ln 3 && (Nat.ble (b + 1) q.2.2 && (z_wd tbl w (.fieldLink own i (q.2.1 b).1 (q.2.1 b).2.1 (q.2.1 b).2.2.1) && ((Nat.beq (z_ftc (TY a b)) k.toNat && Nat.ble k.toNat 8) && (match (q.2.1 b).2.2.2 with
      | true => ini && decide ((q.2.1 b).1 = own)
      | false => true))))
    | none => false
  | .new i => match cl[a]? with
    | some q => Nat.beq ln 3 && (z_wd tbl w (.classLink own i q.1) && (z_wd tbl b (.instantiable q.1 q.2.2) && z_wd tbl k.toNat (.initialized q.1)))
    | none => false
  | .anewarray i => match TC[a - 4]? with
    | some ci => match cl[ci]? with
      | some q => Nat.beq ln 3 && (Nat.ble 4 a && (z_wd tbl w (.classLink own i q.1) && z_wd tbl b (.arrayOver (.object q.1))))
      | none => false
    | none => false
  | .invokevirtual i => Nat.beq ln 3 && (Nat.beq (VK a) 0 && z_wd tbl w (.methodLink own i (Y a)))
  | .invokestatic i => Nat.beq ln 3 && (match Nat.beq b 5 with
    | true => z_wd tbl w (.methodLink own i arraycopyName)
    | false => Nat.beq (VK a) 1 && z_wd tbl w (.methodLink own i (Y a)))
  | .invokespecial i => Nat.beq ln 3 && (match Nat.beq b 4 with
    | true => z_wd tbl w (.methodLink own i Lib.objectInit)
    | false => Nat.beq (VK a) 2 && (match Nat.beq b 3 with
      | true => z_wd tbl w (.methodLinkNest own i (Y a) HN)
      | false => z_wd tbl w (.methodLink own i (Y a))))
  | .tableswitch _ _ _ _ => true
  | _ => Nat.beq ln 1
def z_TYs (cl : List vw_C) (TC : List Nat) (tys : List (ClassId × FieldType)) : Prop := (∀ t, t ≤ 3 → ∃ cA, tys[t]? = some (cA, z_tt t)) ∧ (∀ i ci, TC[i]? = some ci → ∃ cA q, cl[ci]? = some q ∧ tys[4 + i]? = some (cA, .object q.1)) ∧ tys.length = 4 + TC.length
/-- what the tables say of the classes -/
def z_ST (tbl : List Cond) (cl : List vw_C) (TY : Nat → Nat → FieldType) (DF : List (List Nat)) : Prop :=
  (∀ ci q, cl[ci]? = some q → (∀ w ∈ u_ws q.1 q.2.1 q.2.2, w ∈ tbl) ∧ (∀ k, k < q.2.2 → parseFieldDescriptor (q.2.1 k).2.2.1 = some (TY ci k)) ∧ (∀ a, a < q.2.2 → ∀ b, b < q.2.2 → a ≠ b → (q.2.1 a).2.1 ≠ (q.2.1 b).2.1)) ∧
  (∀ ci dc, DF[ci]? = some dc → ∃ q, cl[ci]? = some q ∧ dc.length = q.2.2 ∧ ∀ j, j < q.2.2 → defaultValue (TY ci j) = vp_V (dc.map z_dv) j) ∧
  (Cond.native arraycopyName ∈ tbl ∧ Cond.static arraycopyName ∈ tbl ∧ Cond.initialized "java/lang/System" ∈ tbl) ∧ Cond.instanceMethod Lib.objectInit ∈ tbl ∧ Cond.code Lib.objectInit ⟨#[0xb1]⟩ 1 none ∈ tbl
def z_SC (sc : Option Nat) (ρ0 : List Int) (A : Nat → Prop) (H0 : Heap) (s : State) : Prop := match sc with
  | none => True
  | some L => ∃ (b : Nat) (xs : Nat → Int32), ρ0[7]? = some (b : Int) ∧ va_X b L xs s H0 ∧ b < H0.size ∧ ¬ A b ∧ ∀ j, j < L → ρ0[j + 1]? = some (xs j).toInt
/-- a frame: the machine, its code, its tables' words, its room -/
def z_CX (p : Program) (R : Room) (s : State) (m : MethodId) (args : Array Value) (meth : Method) (c : Code) (cc : ByteArray) (nL : Nat) (own : String) (ini : Bool) (D : va_G) (cl : List vw_C) (tys : List (ClassId × FieldType)) (TC : List Nat) (tbl : List Cond) (A : Nat → Prop) (H0 : Heap) (RC RS d : Nat) (sc : Option Nat) (ρ0 : List Int) : Prop :=
  (p.tables.exec = Jvm.exec ∧ c.code = cc ∧ c.maxLocals = nL ∧ s.vm.findClass own = some m.cls ∧ ∀ w ∈ tbl, w.before args s = true) ∧ (ini = true → meth.name = "<init>") ∧ va_K D cl tys s ∧ (∀ q, H0.size ≤ q → A q) ∧ z_TYs cl TC tys ∧ (RC ≤ R.cells ∧ RS ≤ R.slots ∧ d + 1 ≤ R.frames ∧ 40 * (d + 1) ≤ R.locals) ∧ z_SC sc ρ0 A H0 s
/-! branches, all kinds -/
theorem z_eqI {x y : Int32} : x = y ↔ x.toInt = y.toInt := Int32.toInt_inj.symm
section ZR
variable {p : Program} {l : Launch} {e : Env} {R : Room} {s : State} {m : MethodId} {args : Array Value} {below : List Frame} {meth : Method} {c : Code} {Q : State → Prop} {H : Heap} {locs : List Loc} {ls : Array Slot} {nc ns pc tgt : Nat} {rest : List Value} {cc : ByteArray} {off : Int}
theorem z_if (hx : p.tables.exec = Jvm.exec) (hb : c.code = cc) {cd : Jvm.ClassFile.Cond} {x : Int32} (hd : decode cc pc = .ok (.ifCond cd off, 3)) (ht : (pc : Int) + off = (tgt : Int)) (k1 : z_hd cd x.toInt 0 → W p l e R s m args below meth c H locs nc ns Q (F0 m tgt ls rest)) (k2 : z_hd (z_neg cd) x.toInt 0 → W p l e R s m args below meth c H locs nc ns Q (F0 m (pc + 3) ls rest)) : W p l e R s m args below meth c H locs nc ns Q (F0 m pc ls (.int x :: rest)) := by
  have h0 : (0 : Int32).toInt = 0 := rfl
  cases cd with
  | eq => exact lv_if_eq hx hb hd ht (fun h => k1 (by rw [h]; rfl)) (fun h => k2 (fun q => h (z_eqI.mpr (q.trans h0.symm))))
  | ne => exact lv_if_ne hx hb hd ht (fun h => k1 (fun q => h (z_eqI.mpr (q.trans h0.symm)))) (fun h => k2 (by rw [h]; rfl))
  | lt => exact lv_if_lt hx hb hd ht (fun h => k1 (Int32.lt_iff_toInt_lt.mp h)) (fun h => k2 (Int.not_lt.mp (fun q => h (Int32.lt_iff_toInt_lt.mpr q))))
  | ge => exact lv_if_ge hx hb hd ht (fun h => k1 (Int32.le_iff_toInt_le.mp h)) (fun h => k2 (Int.not_le.mp (fun q => h (Int32.le_iff_toInt_le.mpr q))))
  | gt => exact lv_if_gt hx hb hd ht (fun h => k1 (Int32.lt_iff_toInt_lt.mp h)) (fun h => k2 (Int.not_lt.mp (fun q => h (Int32.lt_iff_toInt_lt.mpr q))))
  | le => exact lv_if_le hx hb hd ht (fun h => k1 (Int32.le_iff_toInt_le.mp h)) (fun h => k2 (Int.not_le.mp (fun q => h (Int32.le_iff_toInt_le.mpr q))))
theorem z_icmp (hx : p.tables.exec = Jvm.exec) (hb : c.code = cc) {cd : Jvm.ClassFile.Cond} {x y : Int32} (hd : decode cc pc = .ok (.if_icmp cd off, 3)) (ht : (pc : Int) + off = (tgt : Int)) (k1 : z_hd cd x.toInt y.toInt → W p l e R s m args below meth c H locs nc ns Q (F0 m tgt ls rest)) (k2 : z_hd (z_neg cd) x.toInt y.toInt → W p l e R s m args below meth c H locs nc ns Q (F0 m (pc + 3) ls rest)) : W p l e R s m args below meth c H locs nc ns Q (F0 m pc ls (.int y :: .int x :: rest)) := by
  cases cd with
  | eq => exact lv_icmp_eq hx hb hd ht (fun h => k1 (by rw [h]; rfl)) (fun h => k2 (fun q => h (z_eqI.mpr q)))
  | ne => exact lv_icmp_ne hx hb hd ht (fun h => k1 (fun q => h (z_eqI.mpr q))) (fun h => k2 (by rw [h]; rfl))
  | lt => exact lv_icmp_lt hx hb hd ht (fun h => k1 (Int32.lt_iff_toInt_lt.mp h)) (fun h => k2 (Int.not_lt.mp (fun q => h (Int32.lt_iff_toInt_lt.mpr q))))
  | ge => exact lv_icmp_ge hx hb hd ht (fun h => k1 (Int32.le_iff_toInt_le.mp h)) (fun h => k2 (Int.not_le.mp (fun q => h (Int32.le_iff_toInt_le.mpr q))))
  | gt => exact lv_icmp_gt hx hb hd ht (fun h => k1 (Int32.lt_iff_toInt_lt.mp h)) (fun h => k2 (Int.not_lt.mp (fun q => h (Int32.lt_iff_toInt_lt.mpr q))))
  | le => exact lv_icmp_le hx hb hd ht (fun h => k1 (Int32.le_iff_toInt_le.mp h)) (fun h => k2 (Int.not_le.mp (fun q => h (Int32.le_iff_toInt_le.mpr q))))
theorem z_lcmp (hx : p.tables.exec = Jvm.exec) (hb : c.code = cc) {cd : Jvm.ClassFile.Cond} {x y : Int64} (hd0 : decode cc pc = .ok (.lcmp, 1)) (hd : decode cc (pc + 1) = .ok (.ifCond cd off, 3)) (ht : ((pc + 1 : Nat) : Int) + off = (tgt : Int)) (k1 : z_hd cd x.toInt y.toInt → W p l e R s m args below meth c H locs nc ns Q (F0 m tgt ls rest)) (k2 : z_hd (z_neg cd) x.toInt y.toInt → W p l e R s m args below meth c H locs nc ns Q (F0 m (pc + 4) ls rest)) : W p l e R s m args below meth c H locs nc ns Q (F0 m pc ls (.long y :: .long x :: rest)) := by
  refine W.lcmp hx hb hd0 ?_
  cases cd with
  | eq => exact lv_if_eq hx hb hd ht (fun h => k1 (by rw [(lg_cmp_eq x y).mp h]; rfl)) (fun h => k2 (fun q => h ((lg_cmp_eq x y).mpr (Int64.toInt_inj.mp q))))
  | ne => exact lv_if_ne hx hb hd ht (fun h => k1 (fun q => h ((lg_cmp_eq x y).mpr (Int64.toInt_inj.mp q)))) (fun h => k2 (by rw [(lg_cmp_eq x y).mp h]; rfl))
  | lt => exact lv_if_lt hx hb hd ht (fun h => k1 (Int64.lt_iff_toInt_lt.mp ((lg_cmp_lt x y).mp h))) (fun h => k2 (Int.not_lt.mp (fun q => h ((lg_cmp_lt x y).mpr (Int64.lt_iff_toInt_lt.mpr q)))))
  | ge => exact lv_if_ge hx hb hd ht (fun h => k1 (Int64.le_iff_toInt_le.mp ((lg_cmp_ge x y).mp h))) (fun h => k2 (Int.not_le.mp (fun q => h ((lg_cmp_ge x y).mpr (Int64.le_iff_toInt_le.mpr q)))))
  | gt => exact lv_if_gt hx hb hd ht (fun h => k1 (Int64.lt_iff_toInt_lt.mp ((lg_cmp_gt x y).mp h))) (fun h => k2 (Int.not_lt.mp (fun q => h ((lg_cmp_gt x y).mpr (Int64.lt_iff_toInt_lt.mpr q)))))
  | le => exact lv_if_le hx hb hd ht (fun h => k1 (Int64.le_iff_toInt_le.mp ((lg_cmp_le x y).mp h))) (fun h => k2 (Int.not_le.mp (fun q => h ((lg_cmp_le x y).mpr (Int64.le_iff_toInt_le.mpr q)))))
end ZR
/-! the widths of numbers -/
theorem z_i2b (x : Int32) : (-128 ≤ x.toInt → x.toInt ≤ 127 → x.toInt8.toInt32.toInt = x.toInt) ∧ -128 ≤ x.toInt8.toInt32.toInt ∧ x.toInt8.toInt32.toInt ≤ 127 := by
  have h1 := Int8.le_toInt x.toInt8
  have h2 := Int8.toInt_lt x.toInt8
  rw [Int8.toInt_toInt32]
  refine ⟨fun a b => ?_, by omega, by omega⟩
  rw [Int32.toInt_toInt8, Int.bmod_eq_of_le (by omega) (by omega)]
theorem z_i2s (x : Int32) : (-32768 ≤ x.toInt → x.toInt ≤ 32767 → x.toInt16.toInt32.toInt = x.toInt) ∧ -32768 ≤ x.toInt16.toInt32.toInt ∧ x.toInt16.toInt32.toInt ≤ 32767 := by
  have h1 := Int16.le_toInt x.toInt16
  have h2 := Int16.toInt_lt x.toInt16
  rw [Int16.toInt_toInt32]
  refine ⟨fun a b => ?_, by omega, by omega⟩
  rw [Int32.toInt_toInt16, Int.bmod_eq_of_le (by omega) (by omega)]
theorem z_l2i (x : Int64) : (-2147483648 ≤ x.toInt → x.toInt ≤ 2147483647 → x.toInt32.toInt = x.toInt) ∧ -2147483648 ≤ x.toInt32.toInt ∧ x.toInt32.toInt ≤ 2147483647 := by
  have h1 := Int32.le_toInt x.toInt32
  have h2 := Int32.toInt_lt x.toInt32
  refine ⟨fun a b => ?_, by omega, by omega⟩
  rw [Int64.toInt_toInt32, Int.bmod_eq_of_le (by omega) (by omega)]
theorem z_nar1 {x : Int32} (h1 : 0 ≤ x.toInt) (h2 : x.toInt ≤ 1) : vp_nar .boolean x = x := by
  rcases z_01 h1 h2 with rfl | rfl
  · rfl
  · rfl
theorem z_nar2 {x : Int32} (h1 : -128 ≤ x.toInt) (h2 : x.toInt ≤ 127) : vp_nar .byte x = x := by
  rw [vp_nar_byte]
  exact Int32.toInt_inj.mp ((z_i2b x).1 h1 h2)
end
section
/-! ===== a step is a step of the machine ===== -/
section ZT
variable {p : Program} {l : Launch} {e : Env} {R : Room} {s : State} {m : MethodId} {args : Array Value} {below : List Frame} {meth : Method} {c : Code} {Q : State → Prop} {D : va_G} {cl : List vw_C} {tys : List (ClassId × FieldType)} {A : Nat → Prop} {H0 : Heap} {nL : Nat} {ρ0 : List Int} {ad0 : List Nat}
variable {cc : ByteArray} {pc : Nat} {ivs : List zI} {lo : List (Nat × zV)} {sk : List zV} {hp : List zC} {nc ns : Nat} {q : List (Nat × zS)}
theorem zs_sl {sc : Option Nat} {n L : Nat} (hC : z_SC sc ρ0 A H0 s) (row : ∀ (b L : Nat) (xs : Nat → Int32) (H : Heap) (locs : List Loc) (ls : Array Slot) (rest : List Value) (i : Int32), va_X b L xs s H0 → b < H0.size → ¬ A b → va_S A H0 H locs → vp_in i L → W p l e R s m args below meth c H locs nc ns Q (F0 m n ls (.int (xs i.toNatClampNeg) :: rest)) → W p l e R s m args below meth c H locs nc ns Q (F0 m pc ls (.int i :: .ref b :: rest)))
    (h : z_sl sc n ivs lo sk hp nc ns = some q) (kk : ∀ z ∈ q, z_K p l e R s m args below meth c Q D cl tys A H0 nL ρ0 ad0 z.1 z.2) : z_K p l e R s m args below meth c Q D cl tys A H0 nL ρ0 ad0 pc (ivs, lo, sk, hp, nc, ns) := by
  unfold z_sl at h
  split at h
  · rename_i L k o sk
    split at h
    · rename_i el
      have el := Nat.le_of_ble_eq_true el
      cases h
      obtain ⟨b, xs, c1, c2, c3, c4, c5⟩ := hC
      intro ρ ws lv st H locs ls hg
      obtain ⟨v2, v1, st, rfl, hv2, hv1, hs⟩ := hg.xsk.c2
      obtain ⟨i, rfl, hi⟩ := hv2
      have ei : i.toInt = (k : Int) := z_v.const hg.zero hi
      have ei2 : i.toNatClampNeg = k := by show i.toInt.toNat = k; omega
      obtain ⟨b', hb1, rfl⟩ := hv1
      rw [z_pre hg.1.1 c1] at hb1
      have eb : b = b' := by
        have := Option.some.inj hb1
        omega
      subst eb
      refine row b L xs H locs ls st i c2 c3 c4 hg.xS (vp_in_iff.mpr ⟨by omega, by omega⟩) (kk _ (List.mem_singleton.mpr rfl) ρ ws lv _ H locs ls (hg.stk ⟨⟨_, rfl, ?_⟩, hs⟩))
      rw [ei2]
      exact ⟨_, z_pre hg.1.1 (c5 k (by omega)), by omega⟩
    · cases h
  · cases h
theorem zs_sn {sc : Option Nat} {n : Nat} (hC : z_SC sc ρ0 A H0 s) (row : ∀ (b L : Nat) (xs : Nat → Int32) (H : Heap) (locs : List Loc) (ls : Array Slot) (rest : List Value), va_X b L xs s H0 → b < H0.size → ¬ A b → va_S A H0 H locs → W p l e R s m args below meth c H locs nc ns Q (F0 m n ls (.int (Int32.ofNat L) :: rest)) → W p l e R s m args below meth c H locs nc ns Q (F0 m pc ls (.ref b :: rest)))
    (h : z_sn sc n ivs lo sk hp nc ns = some q) (kk : ∀ z ∈ q, z_K p l e R s m args below meth c Q D cl tys A H0 nL ρ0 ad0 z.1 z.2) : z_K p l e R s m args below meth c Q D cl tys A H0 nL ρ0 ad0 pc (ivs, lo, sk, hp, nc, ns) := by
  unfold z_sn at h
  split at h
  · rename_i L o sk
    split at h
    · rename_i el
      have el := Nat.le_of_ble_eq_true el
      cases h
      obtain ⟨b, xs, c1, c2, c3, c4, c5⟩ := hC
      intro ρ ws lv st H locs ls hg
      obtain ⟨v1, st, rfl, hv1, hs⟩ := hg.xsk.c1
      obtain ⟨b', hb1, rfl⟩ := hv1
      rw [z_pre hg.1.1 c1] at hb1
      have eb : b = b' := by
        have := Option.some.inj hb1
        omega
      subst eb
      exact row b L xs H locs ls st c2 c3 c4 hg.xS (kk _ (List.mem_singleton.mpr rfl) ρ ws lv _ H locs ls (hg.stk ⟨⟨_, rfl, by rw [z_ofN el]; exact z_v.of0 hg.zero _⟩, hs⟩))
    · cases h
  · cases h
theorem zs_lsh {n : Nat} (row : ∀ (H : Heap) (locs : List Loc) (ls : Array Slot) (rest : List Value) (x : Int64) (y : Int32), (∀ v : Int64, W p l e R s m args below meth c H locs nc ns Q (F0 m n ls (.long v :: rest))) → W p l e R s m args below meth c H locs nc ns Q (F0 m pc ls (.int y :: .long x :: rest)))
    (h : z_lsh n ivs lo sk hp nc ns = some q) (kk : ∀ z ∈ q, z_K p l e R s m args below meth c Q D cl tys A H0 nL ρ0 ad0 z.1 z.2) : z_K p l e R s m args below meth c Q D cl tys A H0 nL ρ0 ad0 pc (ivs, lo, sk, hp, nc, ns) := by
  unfold z_lsh at h
  split at h
  · rename_i x1 x2 y1 y2 sk
    cases h
    intro ρ ws lv st H locs ls hg
    obtain ⟨v2, v1, st, rfl, hv2, hv1, hs⟩ := hg.xsk.c2
    obtain ⟨i, rfl, -⟩ := hv2
    obtain ⟨j, rfl, -⟩ := hv1
    refine row H locs ls st j i (fun v => ?_)
    obtain ⟨r1, ρ', g1, g2, g3⟩ := z_top_ok (t := 1) hg.xiv (z_rngL v).1 (z_rngL v).2
    have hg' := (hg.stk hs).more g1 g2
    exact kk _ (List.mem_singleton.mpr rfl) ρ' ws lv _ H locs ls (hg'.stk ⟨z_m.ofRL (ρ := ρ) r1 g3, hg'.xsk⟩)
  · cases h
theorem z_cats_ok {ρ : List Int} {ad : List Nat} : ∀ {sk : List zV} {st : List Value}, z_F (z_m ρ ad) sk st → (st.map fun v => v.category).sum = z_cats sk
  | [], [], _ => rfl
  | a :: sk, v :: st, h => by
    have ih := z_cats_ok h.2
    rw [List.map_cons, List.sum_cons, ih]
    cases e : Nat.beq a.1 1 with
    | true =>
      have e2 : z_cats (a :: sk) = z_cats sk + 2 := by
        show (match Nat.beq a.1 1 with | true => z_cats sk + 2 | false => z_cats sk + 1) = _
        rw [e]
      have h1 := z_m.cat h.1
      have e := z_beq e
      rw [e] at h1
      have h2 : v.category = 2 := eq_of_beq h1
      omega
    | false =>
      have e2 : z_cats (a :: sk) = z_cats sk + 1 := by
        show (match Nat.beq a.1 1 with | true => z_cats sk + 2 | false => z_cats sk + 1) = _
        rw [e]
      have h1 := z_cat1 h.1 e
      omega
  | [], _ :: _, h => h.elim
  | _ :: _, [], h => h.elim
theorem zs_oi {n : Nat} (row : ∀ (H : Heap) (locs : List Loc) (ls : Array Slot) (rest : List Value) (a : Nat) (lv : List (Nat × Value)), lv_has ls nL lv → (rest.map fun v => v.category).sum ≤ 8 → W p l e R s m args below meth c H locs nc ns Q (F0 m n ls rest) → W p l e R s m args below meth c H locs nc ns Q (F0 m pc ls (.ref a :: rest)))
    (h : z_oi n ivs lo sk hp nc ns = some q) (kk : ∀ z ∈ q, z_K p l e R s m args below meth c Q D cl tys A H0 nL ρ0 ad0 z.1 z.2) : z_K p l e R s m args below meth c Q D cl tys A H0 nL ρ0 ad0 pc (ivs, lo, sk, hp, nc, ns) := by
  unfold z_oi at h
  split at h
  · rename_i x y sk
    split at h
    · rename_i el
      have el := Nat.le_of_ble_eq_true el
      cases h
      intro ρ ws lv st H locs ls hg
      obtain ⟨v1, st, rfl, hv1, hs⟩ := hg.xsk.c1
      obtain ⟨a, -, rfl⟩ := hv1
      exact row H locs ls st a lv hg.xL (by rw [z_cats_ok hs]; exact el) (kk _ (List.mem_singleton.mpr rfl) ρ ws lv _ H locs ls (hg.stk hs))
    · cases h
  · cases h
end ZT
theorem z_ref2 {v : Value} (h : ∃ (ρ : List Int) (ad : List Nat) (x : Nat) (y : Int), z_m ρ ad (2, x, y) v) : ∃ a : Nat, v = .ref a := by
  obtain ⟨_, _, _, _, a, -, h⟩ := h
  exact ⟨a, h⟩
theorem z_ref4 {v : Value} (h : ∃ (ρ : List Int) (ad : List Nat) (x : Nat) (y : Int), z_m ρ ad (4, x, y) v) : ∃ a : Nat, v = .ref a := by
  obtain ⟨_, _, _, _, a, -, h⟩ := h
  exact ⟨a, h⟩
theorem z_int0 {v : Value} (h : ∃ (ρ : List Int) (ad : List Nat) (x : Nat) (y : Int), z_m ρ ad (0, x, y) v) : ∃ a : Int32, v = .int a := by
  obtain ⟨_, _, _, _, a, h, -⟩ := h
  exact ⟨a, h⟩
theorem z_int1 {v : Value} (h : ∃ (ρ : List Int) (ad : List Nat) (x : Nat) (y : Int), z_m ρ ad (1, x, y) v) : ∃ a : Int64, v = .long a := by
  obtain ⟨_, _, _, _, a, h, -⟩ := h
  exact ⟨a, h⟩
theorem z_m.ci {ρ : List Int} {ad : List Nat} (h0 : ρ[0]? = some 0) (i : Int32) : z_m ρ ad (0, 0, i.toInt) (.int i) := ⟨i, rfl, z_v.of0 h0 _⟩
theorem z_m.cj {ρ : List Int} {ad : List Nat} (h0 : ρ[0]? = some 0) (i : Int64) : z_m ρ ad (1, 0, i.toInt) (.long i) := ⟨i, rfl, z_v.of0 h0 _⟩
end
section
/-! ===== every instruction but calls ===== -/
section ZU
variable {p : Program} {l : Launch} {e : Env} {R : Room} {s : State} {m : MethodId} {args : Array Value} {below : List Frame} {meth : Method} {c : Code} {Q : State → Prop} {D : va_G} {cl : List vw_C} {tys : List (ClassId × FieldType)} {A : Nat → Prop} {H0 : Heap} {nL : Nat} {ρ0 : List Int} {ad0 : List Nat}
variable {cc : ByteArray} {pc : Nat} {ivs : List zI} {lo : List (Nat × zV)} {sk : List zV} {hp : List zC} {nc ns : Nat} {q : List (Nat × zS)}
theorem z_lda_ok {i n : Nat} (row : ∀ (H : Heap) (locs : List Loc) (ls : Array Slot) (rest : List Value) (a : Nat), ls[i]? = some (.val (.ref a)) → W p l e R s m args below meth c H locs nc ns Q (F0 m n ls (.ref a :: rest)) → W p l e R s m args below meth c H locs nc ns Q (F0 m pc ls rest))
    (h : z_lda i n ivs lo sk hp nc ns = some q) (kk : ∀ z ∈ q, z_K p l e R s m args below meth c Q D cl tys A H0 nL ρ0 ad0 z.1 z.2) : z_K p l e R s m args below meth c Q D cl tys A H0 nL ρ0 ad0 pc (ivs, lo, sk, hp, nc, ns) := by
  unfold z_lda at h
  split at h
  · rename_i q' h'
    cases h
    refine zs_ld (t := 2) (i := i) (n := n) (fun H locs ls rest v hv hl k => ?_) h' kk
    obtain ⟨a, rfl⟩ := z_ref2 hv
    exact row H locs ls rest a hl k
  · refine zs_ld (t := 4) (i := i) (n := n) (fun H locs ls rest v hv hl k => ?_) h kk
    obtain ⟨a, rfl⟩ := z_ref4 hv
    exact row H locs ls rest a hl k
theorem z_step_ok {ZD : List zN} {call : zL} {RC RS d : Nat} {sc : Option Nat} {DF : List (List Nat)} {TC : List Nat} {TY : Nat → Nat → FieldType} {Y : Nat → MethodName} {VK : Nat → Nat} {HN own : String} {ini : Bool} {tbl : List Cond} {nx : Option zE} {ins : Jvm.ClassFile.Instr} {ln a b w : Nat} {k : Int}
    (CX : z_CX p R s m args meth c cc nL own ini D cl tys TC tbl A H0 RC RS d sc ρ0) (ST : z_ST tbl cl TY DF) (hd : decode cc pc = .ok (ins, ln)) (hlk : z_lok tbl cl TY TC Y VK HN own ini ins ln a b w k = true)
    (hnx : ∀ x, nx = some x → decode cc (pc + 1) = .ok (x.2.1, x.2.2.1) ∧ ∀ cd off, x.2.1 = .ifCond cd off → x.2.2.1 = 3)
    (hV : ∀ i, decode cc pc = .ok (.invokevirtual i, 3) → VK a = 0 → Cond.methodLink own i (Y a) ∈ tbl → z_inv ZD call RC RS a (pc + 3) ivs lo sk hp nc ns = some q → z_K p l e R s m args below meth c Q D cl tys A H0 nL ρ0 ad0 pc (ivs, lo, sk, hp, nc, ns))
    (hS : ∀ i, decode cc pc = .ok (.invokestatic i, 3) → VK a = 1 → Cond.methodLink own i (Y a) ∈ tbl → z_inv ZD call RC RS a (pc + 3) ivs lo sk hp nc ns = some q → z_K p l e R s m args below meth c Q D cl tys A H0 nL ρ0 ad0 pc (ivs, lo, sk, hp, nc, ns))
    (hI : ∀ i, decode cc pc = .ok (.invokespecial i, 3) → VK a = 2 → Cond.methodLink own i (Y a) ∈ tbl → z_inv ZD call RC RS a (pc + 3) ivs lo sk hp nc ns = some q → z_K p l e R s m args below meth c Q D cl tys A H0 nL ρ0 ad0 pc (ivs, lo, sk, hp, nc, ns))
    (hN : ∀ i, decode cc pc = .ok (.invokespecial i, 3) → VK a = 2 → Cond.methodLinkNest own i (Y a) HN ∈ tbl → z_inv ZD call RC RS a (pc + 3) ivs lo sk hp nc ns = some q → z_K p l e R s m args below meth c Q D cl tys A H0 nL ρ0 ad0 pc (ivs, lo, sk, hp, nc, ns))
    (h : z_step ZD call RC RS nL sc DF TC nx pc ins a b k ivs lo sk hp nc ns = some q) (kk : ∀ z ∈ q, z_K p l e R s m args below meth c Q D cl tys A H0 nL ρ0 ad0 z.1 z.2) : z_K p l e R s m args below meth c Q D cl tys A H0 nL ρ0 ad0 pc (ivs, lo, sk, hp, nc, ns) := by
  obtain ⟨⟨hx, hb, hml, hown, hts⟩, hini, hK, hA, ⟨ht1, ht2, ht3⟩, ⟨r1, r2, r3, r4⟩, hC⟩ := CX
  obtain ⟨s1, s2, ⟨s3, s4, s5⟩, s6, s7⟩ := ST
  cases ins with
  | aload_n i =>
    have el : ln = 1 := z_beq hlk
    subst el
    exact z_lda_ok (fun H locs ls rest a hl k => lv_aload_n hx hb hd rfl hl k) h kk
  | aload i =>
    have el : ln = 2 := z_beq hlk
    subst el
    exact z_lda_ok (fun H locs ls rest a hl k => lv_aload hx hb hd hl k) h kk
  | iload_n i =>
    have el : ln = 1 := z_beq hlk
    subst el
    refine zs_ld (t := 0) (fun H locs ls rest v hv hl k => ?_) h kk
    obtain ⟨a, rfl⟩ := z_int0 hv
    exact lv_iload_n hx hb hd rfl hl k
  | iload i =>
    have el : ln = 2 := z_beq hlk
    subst el
    refine zs_ld (t := 0) (fun H locs ls rest v hv hl k => ?_) h kk
    obtain ⟨a, rfl⟩ := z_int0 hv
    exact lv_iload hx hb hd hl k
  | lload_n i =>
    have el : ln = 1 := z_beq hlk
    subst el
    refine zs_ld (t := 1) (fun H locs ls rest v hv hl k => ?_) h kk
    obtain ⟨a, rfl⟩ := z_int1 hv
    exact lv_lload_n hx hb hd rfl hl k
  | lload i =>
    have el : ln = 2 := z_beq hlk
    subst el
    refine zs_ld (t := 1) (fun H locs ls rest v hv hl k => ?_) h kk
    obtain ⟨a, rfl⟩ := z_int1 hv
    exact lv_lload hx hb hd hl k
  | iconst n =>
    have el : ln = 1 := z_beq hlk
    subst el
    exact zs_psh (fun ρ h0 ad => z_m.ci h0 _) (fun H locs ls rest k => lv_iconst hx hb hd rfl k) h kk
  | bipush n =>
    have el : ln = 2 := z_beq hlk
    subst el
    exact zs_psh (fun ρ h0 ad => z_m.ci h0 _) (fun H locs ls rest k => lv_bipush hx hb hd rfl k) h kk
  | sipush n =>
    have el : ln = 3 := z_beq hlk
    subst el
    exact zs_psh (fun ρ h0 ad => z_m.ci h0 _) (fun H locs ls rest k => lv_sipush hx hb hd rfl k) h kk
  | lconst n =>
    have el : ln = 1 := z_beq hlk
    subst el
    exact zs_psh (fun ρ h0 ad => z_m.cj h0 _) (fun H locs ls rest k => lv_lconst hx hb hd rfl k) h kk
  | ldc i =>
    have hlk : (Nat.beq ln 2 && z_wd tbl w (.constant own i (Int32.ofInt k))) = true := hlk
    have el : ln = 2 := z_beq (z_and hlk).1
    have hw := z_wd_ok (z_and hlk).2
    subst el
    exact zs_psh (fun ρ h0 ad => z_m.ci h0 _) (fun H locs ls rest k => lv_ldc hx hb hown (hts _ hw) hd k) h kk
  | ldc_w i =>
    have hlk : (Nat.beq ln 3 && z_wd tbl w (.constant own i (Int32.ofInt k))) = true := hlk
    have el : ln = 3 := z_beq (z_and hlk).1
    have hw := z_wd_ok (z_and hlk).2
    subst el
    exact zs_psh (fun ρ h0 ad => z_m.ci h0 _) (fun H locs ls rest k => lv_ldcw hx hb hown (hts _ hw) hd k) h kk
  | ldc2_w i =>
    have hlk : (Nat.beq ln 3 && z_wd tbl w (.constantLong own i (Int64.ofInt k))) = true := hlk
    have el : ln = 3 := z_beq (z_and hlk).1
    have hw := z_wd_ok (z_and hlk).2
    subst el
    exact zs_psh (fun ρ h0 ad => z_m.cj h0 _) (fun H locs ls rest k => lv_ldc2 hx hb hown (hts _ hw) hd k) h kk
  | istore_n i =>
    have el : ln = 1 := z_beq hlk
    subst el
    refine zs_sto (t := 0) (fun H locs ls rest v lv hv hl hi k => ?_) h kk
    obtain ⟨a, rfl⟩ := z_int0 hv
    exact lv_istore_n hx hb hd rfl hl hi rfl k
  | istore i =>
    have el : ln = 2 := z_beq hlk
    subst el
    refine zs_sto (t := 0) (fun H locs ls rest v lv hv hl hi k => ?_) h kk
    obtain ⟨a, rfl⟩ := z_int0 hv
    exact lv_istore hx hb hd hl hi rfl k
  | astore_n i =>
    have el : ln = 1 := z_beq hlk
    subst el
    refine zs_sto (t := 2) (fun H locs ls rest v lv hv hl hi k => ?_) h kk
    obtain ⟨a, rfl⟩ := z_ref2 hv
    exact lv_astore_n hx hb hd rfl hl hi rfl k
  | astore i =>
    have el : ln = 2 := z_beq hlk
    subst el
    refine zs_sto (t := 2) (fun H locs ls rest v lv hv hl hi k => ?_) h kk
    obtain ⟨a, rfl⟩ := z_ref2 hv
    exact lv_astore hx hb hd hl hi rfl k
  | lstore_n i =>
    have el : ln = 1 := z_beq hlk
    subst el
    exact zs_sto2 (fun H locs ls rest v lv hl hi k => lv_lstore_n hx hb hd rfl hl hi rfl k) h kk
  | lstore i =>
    have el : ln = 2 := z_beq hlk
    subst el
    exact zs_sto2 (fun H locs ls rest v lv hl hi k => lv_lstore hx hb hd hl hi rfl k) h kk
  | iinc i n =>
    have el : ln = 3 := z_beq hlk
    subst el
    exact zs_inc (z_rng _) (fun H locs ls rest x kk lv hl hk hi k => lv_iinc hx hb hd hl hk (by rw [Int32.ofInt_toInt]) hi rfl k) h kk
  | iadd =>
    have el : ln = 1 := z_beq hlk
    subst el
    exact zs_bin (f := fun x y => x + y) (G := fun _ => True) (fun ivs ρ x c y d X Y out h1 h2 h3 h4 h5 => ⟨trivial, z_add_ok h1 h2 h3 h4 (fun a b => by rw [Int32.toInt_add, z_bm a b]) (z_rng _) h5⟩) (fun H locs ls rest x y _ k => lv_iadd hx hb hd k) h kk
  | isub =>
    have el : ln = 1 := z_beq hlk
    subst el
    exact zs_bin (f := fun x y => x - y) (G := fun _ => True) (fun ivs ρ x c y d X Y out h1 h2 h3 h4 h5 => ⟨trivial, z_sub_ok h1 h2 h3 h4 (fun a b => by rw [Int32.toInt_sub, z_bm a b]) (z_rng _) h5⟩) (fun H locs ls rest x y _ k => lv_isub hx hb hd k) h kk
  | imul =>
    have el : ln = 1 := z_beq hlk
    subst el
    exact zs_bin (f := fun x y => x * y) (G := fun _ => True) (fun ivs ρ x c y d X Y out h1 h2 h3 h4 h5 => ⟨trivial, z_mul_ok h1 h2 h3 h4 (fun a b => by rw [Int32.toInt_mul, z_bm a b]) (z_rng _) h5⟩) (fun H locs ls rest x y _ k => lv_imul hx hb hd k) h kk
  | iand =>
    have el : ln = 1 := z_beq hlk
    subst el
    exact zs_bin (f := fun x y => x &&& y) (G := fun _ => True) (fun ivs ρ x c y d X Y out h1 h2 h3 h4 h5 => ⟨trivial, z_opc_ok (g := fun x y => x &&& y) h1 h2 h3 h4 h5⟩) (fun H locs ls rest x y _ k => lv_iand hx hb hd k) h kk
  | ior =>
    have el : ln = 1 := z_beq hlk
    subst el
    exact zs_bin (f := fun x y => x ||| y) (G := fun _ => True) (fun ivs ρ x c y d X Y out h1 h2 h3 h4 h5 => ⟨trivial, z_opc_ok (g := fun x y => x ||| y) h1 h2 h3 h4 h5⟩) (fun H locs ls rest x y _ k => lv_ior hx hb hd k) h kk
  | ixor =>
    have el : ln = 1 := z_beq hlk
    subst el
    exact zs_bin (f := fun x y => x ^^^ y) (G := fun _ => True) (fun ivs ρ x c y d X Y out h1 h2 h3 h4 h5 => ⟨trivial, z_opc_ok (g := fun x y => x ^^^ y) h1 h2 h3 h4 h5⟩) (fun H locs ls rest x y _ k => lv_ixor hx hb hd k) h kk
  | ishl =>
    have el : ln = 1 := z_beq hlk
    subst el
    exact zs_bin (f := fun x y => x <<< (y &&& 31)) (G := fun _ => True) (fun ivs ρ x c y d X Y out h1 h2 h3 h4 h5 => ⟨trivial, z_opc_ok (g := fun x y => x <<< (y &&& 31)) h1 h2 h3 h4 h5⟩) (fun H locs ls rest x y _ k => lv_ishl hx hb hd k) h kk
  | ishr =>
    have el : ln = 1 := z_beq hlk
    subst el
    exact zs_bin (f := fun x y => x >>> (y &&& 31)) (G := fun _ => True) (fun ivs ρ x c y d X Y out h1 h2 h3 h4 h5 => ⟨trivial, z_opc_ok (g := fun x y => x >>> (y &&& 31)) h1 h2 h3 h4 h5⟩) (fun H locs ls rest x y _ k => lv_ishr hx hb hd k) h kk
  | ladd =>
    have el : ln = 1 := z_beq hlk
    subst el
    exact zs_binL (f := fun x y => x + y) (G := fun _ => True) (fun ivs ρ x c y d X Y out h1 h2 h3 h4 h5 => ⟨trivial, z_add_ok h1 h2 h3 h4 (fun a b => by rw [Int64.toInt_add, z_bmL a b]) (z_rngL _) h5⟩) (fun H locs ls rest x y _ k => lv_ladd hx hb hd k) h kk
  | lsub =>
    have el : ln = 1 := z_beq hlk
    subst el
    exact zs_binL (f := fun x y => x - y) (G := fun _ => True) (fun ivs ρ x c y d X Y out h1 h2 h3 h4 h5 => ⟨trivial, z_sub_ok h1 h2 h3 h4 (fun a b => by rw [Int64.toInt_sub, z_bmL a b]) (z_rngL _) h5⟩) (fun H locs ls rest x y _ k => lv_lsub hx hb hd k) h kk
  | lmul =>
    have el : ln = 1 := z_beq hlk
    subst el
    exact zs_binL (f := fun x y => x * y) (G := fun _ => True) (fun ivs ρ x c y d X Y out h1 h2 h3 h4 h5 => ⟨trivial, z_mul_ok h1 h2 h3 h4 (fun a b => by rw [Int64.toInt_mul, z_bmL a b]) (z_rngL _) h5⟩) (fun H locs ls rest x y _ k => lv_lmul hx hb hd k) h kk
  | land =>
    have el : ln = 1 := z_beq hlk
    subst el
    exact zs_binL (f := fun x y => x &&& y) (G := fun _ => True) (fun ivs ρ x c y d X Y out h1 h2 h3 h4 h5 => ⟨trivial, z_opcL_ok (g := fun x y => x &&& y) h1 h2 h3 h4 h5⟩) (fun H locs ls rest x y _ k => lv_land hx hb hd k) h kk
  | lor =>
    have el : ln = 1 := z_beq hlk
    subst el
    exact zs_binL (f := fun x y => x ||| y) (G := fun _ => True) (fun ivs ρ x c y d X Y out h1 h2 h3 h4 h5 => ⟨trivial, z_opcL_ok (g := fun x y => x ||| y) h1 h2 h3 h4 h5⟩) (fun H locs ls rest x y _ k => lv_lor hx hb hd k) h kk
  | lshl =>
    have el : ln = 1 := z_beq hlk
    subst el
    exact zs_lsh (fun H locs ls rest x y k => lv_lshl hx hb hd rfl (k _)) h kk
  | i2l =>
    have el : ln = 1 := z_beq hlk
    subst el
    refine zs_un (t := 0) (t' := 1) (by decide) (fun ivs ρ x cx v z out h1 h2 h3 h4 h5 => ?_) h kk
    obtain ⟨i, rfl, rfl⟩ := h4
    have r := z_rng i
    have ho := z_cst_ok (t := 1) (r := i.toInt) h1 h3 (fun _ _ => rfl) r h5
    exact ⟨.long i.toInt64, i.toInt, ⟨_, rfl, Int32.toInt_toInt64 i⟩, ⟨rfl, ho.2⟩, fun H locs ls rest k => lv_i2l hx hb hd rfl k⟩
  | l2i =>
    have el : ln = 1 := z_beq hlk
    subst el
    refine zs_un (t := 1) (t' := 0) (by decide) (fun ivs ρ x cx v z out h1 h2 h3 h4 h5 => ?_) h kk
    obtain ⟨i, rfl, rfl⟩ := h4
    have ho := z_cst_ok (t := 0) (r := i.toInt32.toInt) h1 h3 (z_l2i i).1 (z_l2i i).2 h5
    exact ⟨.int i.toInt32, i.toInt32.toInt, ⟨_, rfl, rfl⟩, ⟨rfl, ho.2⟩, fun H locs ls rest k => lv_l2i hx hb hd rfl k⟩
  | i2b =>
    have el : ln = 1 := z_beq hlk
    subst el
    refine zs_un (t := 0) (t' := 0) (by decide) (fun ivs ρ x cx v z out h1 h2 h3 h4 h5 => ?_) h kk
    obtain ⟨i, rfl, rfl⟩ := h4
    have ho := z_cst_ok (t := 0) (r := i.toInt8.toInt32.toInt) h1 h3 (z_i2b i).1 (z_i2b i).2 h5
    exact ⟨.int i.toInt8.toInt32, _, ⟨_, rfl, rfl⟩, ⟨rfl, ho.2⟩, fun H locs ls rest k => lv_i2b hx hb hd rfl k⟩
  | i2s =>
    have el : ln = 1 := z_beq hlk
    subst el
    refine zs_un (t := 0) (t' := 0) (by decide) (fun ivs ρ x cx v z out h1 h2 h3 h4 h5 => ?_) h kk
    obtain ⟨i, rfl, rfl⟩ := h4
    have ho := z_cst_ok (t := 0) (r := i.toInt16.toInt32.toInt) h1 h3 (z_i2s i).1 (z_i2s i).2 h5
    exact ⟨.int i.toInt16.toInt32, _, ⟨_, rfl, rfl⟩, ⟨rfl, ho.2⟩, fun H locs ls rest k => lv_i2s hx hb hd rfl k⟩
  | lcmp =>
    have el : ln = 1 := z_beq hlk
    subst el
    have h : z_lcm nx pc ivs lo sk hp nc ns = some q := h
    unfold z_lcm at h
    split at h
    · rename_i x0 cd off x1 x2
      obtain ⟨n1, n2⟩ := hnx _ rfl
      have n2 := n2 cd off rfl
      rw [n2] at n1
      split at h
      · rename_i t et
        exact zs_br2L (fun H locs ls rest x y k1 k2 => z_lcmp hx hb hd n1 (z_tg_ok et) k1 k2) h kk
      · cases h
    · cases h
  | ifCond cd off =>
    have el : ln = 3 := z_beq hlk
    subst el
    have h : (match z_tg pc off with
      | some t => z_br1 cd t (pc + 3) ivs lo sk hp nc ns
      | none => none) = some q := h
    split at h
    · rename_i t et
      exact zs_br1 (fun H locs ls rest x k1 k2 => z_if hx hb hd (z_tg_ok et) k1 k2) h kk
    · cases h
  | if_icmp cd off =>
    have el : ln = 3 := z_beq hlk
    subst el
    have h : (match z_tg pc off with
      | some t => z_br2 0 true cd t (pc + 3) ivs lo sk hp nc ns
      | none => none) = some q := h
    split at h
    · rename_i t et
      exact zs_br2 (fun H locs ls rest x y k1 k2 => z_icmp hx hb hd (z_tg_ok et) k1 k2) h kk
    · cases h
  | goto off =>
    have el : ln = 3 := z_beq hlk
    subst el
    exact zs_gt (fun t H locs ls rest et k => lv_goto hx hb hd (z_tg_ok et) k) h kk
  | tableswitch d0 x0 y0 offs =>
    exact zs_tsw (fun dt H locs ls rest x h1 h2 k => lv_tableOut hx hb hd h2 h1 k) (fun t o H locs ls rest x h1 h2 h3 h4 k => lv_tableIn hx hb hd h2 h3 h4 h1 k) h kk
  | dup =>
    have el : ln = 1 := z_beq hlk
    subst el
    exact zs_dup (fun H locs ls rest v hv k => lv_dup hx hb hd hv k) h kk
  | dup2 =>
    have el : ln = 1 := z_beq hlk
    subst el
    exact zs_dup2 (fun H locs ls rest v w hv hw k => lv_dup2_11 hx hb hd hv hw k) h kk
  | pop =>
    have el : ln = 1 := z_beq hlk
    subst el
    exact zs_pop (fun H locs ls rest v hv k => lv_pop hx hb hd hv k) h kk
  | getfield i =>
    have hlk : (match cl[a]? with
      | some q => Nat.beq ln 3 && (Nat.ble (b + 1) q.2.2 && z_wd tbl w (.fieldLink own i (q.2.1 b).1 (q.2.1 b).2.1 (q.2.1 b).2.2.1))
      | none => false) = true := hlk
    split at hlk
    · rename_i q0 eq0
      have el : ln = 3 := z_beq (z_and hlk).1
      subst el
      have e2 := Nat.le_of_ble_eq_true (z_and (z_and hlk).2).1
      have e3 := z_wd_ok (z_and (z_and hlk).2).2
      exact zs_gf (fun ws H locs ls rest a0 q1 vs v hP h1 h2 k => va_get (D := D) (ci := a) (C := q0.1) (T := q0.2.1) (N := q0.2.2) hx hb hts (s1 a q0 eq0).1 hown hK hP q1 h1 eq0 b e2 (hts _ e3) (fun _ h9 => h9) h2 hd k) h kk
    · cases hlk
  | putfield i =>
    have hlk : (match cl[a]? with
      | some q => Nat.beq ln 3 && (Nat.ble (b + 1) q.2.2 && (z_wd tbl w (.fieldLink own i (q.2.1 b).1 (q.2.1 b).2.1 (q.2.1 b).2.2.1) && ((Nat.beq (z_ftc (TY a b)) k.toNat && Nat.ble k.toNat 8) && (match (q.2.1 b).2.2.2 with
        | true => ini && decide ((q.2.1 b).1 = own)
        | false => true))))
      | none => false) = true := hlk
    split at hlk
    · rename_i q0 eq0
      have el : ln = 3 := z_beq (z_and hlk).1
      subst el
      have e2 := Nat.le_of_ble_eq_true (z_and (z_and hlk).2).1
      have e3 := z_wd_ok (z_and (z_and (z_and hlk).2).2).1
      have e4 := z_beq (z_and (z_and (z_and (z_and (z_and hlk).2).2).2).1).1
      have e5 := Nat.le_of_ble_eq_true (z_and (z_and (z_and (z_and (z_and hlk).2).2).2).1).2
      have e6 := (z_and (z_and (z_and (z_and hlk).2).2).2).2
      refine zs_pf (fun ws H locs ls rest a0 q1 vs v hP hD hS h1 h2 hv k => ?_) h kk
      rw [← e4] at hv
      have hf := z_ftc_ok hv (by omega)
      split at e6
      · rename_i ef
        have g1 := hini (z_and e6).1
        have g2 := of_decide_eq_true (z_and e6).2
        exact va_putF (D := D) (ci := a) (C := q0.1) (T := q0.2.1) (N := q0.2.2) (ty := TY a b) hx hb hts (s1 a q0 eq0).1 (TY a) (s1 a q0 eq0).2.1 (s1 a q0 eq0).2.2 hown hK hP hD hS q1 h1 eq0 b e2 (hts _ e3) (fun _ h9 => h9) ef g1 g2 ((s1 a q0 eq0).2.1 b e2) hf.1 hf.2 h2 hd k
      · rename_i ef
        exact va_put (D := D) (ci := a) (C := q0.1) (T := q0.2.1) (N := q0.2.2) (ty := TY a b) hx hb hts (s1 a q0 eq0).1 (TY a) (s1 a q0 eq0).2.1 (s1 a q0 eq0).2.2 hown hK hP hD hS q1 h1 eq0 b e2 (hts _ e3) (fun _ h9 => h9) ef ((s1 a q0 eq0).2.1 b e2) hf.1 hf.2 h2 hd k
    · cases hlk
  | iaload =>
    have el : ln = 1 := z_beq hlk
    subst el
    have h : (match z_isc sk with
      | true => z_sl sc (pc + 1) ivs lo sk hp nc ns
      | false => z_al z_okI 0 (pc + 1) ivs lo sk hp nc ns) = some q := h
    split at h
    · exact zs_sl (L := 0) hC (fun b L xs H locs ls rest i c2 c3 c4 hS hi k => va_sld hx hb c2 c3 c4 hS hi hd k) h kk
    · refine zs_al (ok := z_okI) (fun t ht => by have := z_beq ht; omega) (fun ws H locs ls rest a0 q0 t0 n0 cA ty f i hP h1 h2 h3 h4 k => ?_) h kk
      have e0 : t0 = 0 := z_beq h3
      subst e0
      obtain ⟨cB, e1⟩ := ht1 0 (by omega)
      rw [h2] at e1
      cases e1
      exact va_iald hx hb hK hP q0 0 h1 h2 h4 hd k
  | baload =>
    have el : ln = 1 := z_beq hlk
    subst el
    refine zs_al (ok := z_okB) (fun t ht => by rcases Bool.or_eq_true_iff.mp ht with q | q <;> have := z_beq q <;> omega) (fun ws H locs ls rest a0 q0 t0 n0 cA ty f i hP h1 h2 h3 h4 k => ?_) h kk
    rcases Bool.or_eq_true_iff.mp h3 with e0 | e0
    · have e0 : t0 = 1 := z_beq e0
      subst e0
      obtain ⟨cB, e1⟩ := ht1 1 (by omega)
      rw [h2] at e1
      cases e1
      exact va_zald hx hb hK hP q0 1 h1 h2 h4 hd k
    · have e0 : t0 = 2 := z_beq e0
      subst e0
      obtain ⟨cB, e1⟩ := ht1 2 (by omega)
      rw [h2] at e1
      cases e1
      exact va_bald hx hb hK hP q0 2 h1 h2 h4 hd k
  | laload =>
    have el : ln = 1 := z_beq hlk
    subst el
    refine zs_alL (fun ws H locs ls rest a0 q0 n0 cA ty f i hP h1 h2 h4 k => ?_) h kk
    obtain ⟨cB, e1⟩ := ht1 3 (by omega)
    rw [h2] at e1
    cases e1
    exact va_lald hx hb hK hP q0 3 h1 h2 h4 hd k
  | aaload =>
    have el : ln = 1 := z_beq hlk
    subst el
    refine zs_ar (fun ws H locs ls rest a0 q0 t0 n0 cA ty f i hP h1 h3 h2 h4 k => ?_) h kk
    have hl := (List.getElem?_eq_some_iff.mp h2).1
    rw [ht3] at hl
    obtain ⟨cB, q1, e0, e1⟩ := ht2 (t0 - 4) _ (List.getElem?_eq_getElem (show t0 - 4 < TC.length by omega))
    rw [show 4 + (t0 - 4) = t0 by omega, h2] at e1
    cases e1
    exact va_aldq hx hb hK hP q0 t0 h1 h2 h4 hd k
  | iastore =>
    have el : ln = 1 := z_beq hlk
    subst el
    refine zs_as (ok := z_stI) (fun t _ _ ht => by have := z_beq ht; omega) (fun ws H locs ls rest a0 q0 t0 n0 cA ty f i x vl vh hP hD hS h1 h2 h3 h4 h5 h6 k => ?_) h kk
    have e0 : t0 = 0 := z_beq h3
    subst e0
    obtain ⟨cB, e1⟩ := ht1 0 (by omega)
    rw [h2] at e1
    cases e1
    exact va_iast hx hb hK hP hD hS q0 0 h1 h2 h6 hd k
  | bastore =>
    have el : ln = 1 := z_beq hlk
    subst el
    refine zs_as (ok := z_stB) (fun t _ _ ht => by rcases Bool.or_eq_true_iff.mp ht with q | q <;> have := z_beq (z_and q).1 <;> omega) (fun ws H locs ls rest a0 q0 t0 n0 cA ty f i x vl vh hP hD hS h1 h2 h3 h4 h5 h6 k => ?_) h kk
    rcases Bool.or_eq_true_iff.mp h3 with e0 | e0
    · have f1 := z_ile_ok (z_and (z_and e0).2).1
      have f2 := z_ile_ok (z_and (z_and e0).2).2
      have e0 : t0 = 1 := z_beq (z_and e0).1
      subst e0
      obtain ⟨cB, e1⟩ := ht1 1 (by omega)
      rw [h2] at e1
      cases e1
      have hn := z_nar1 (x := x) (by omega) (by omega)
      exact va_zast hx hb hK hP hD hS q0 1 h1 h2 h6 hd (fun H1 locs1 => by rw [hn]; exact k H1 locs1)
    · have f1 := z_ile_ok (z_and (z_and e0).2).1
      have f2 := z_ile_ok (z_and (z_and e0).2).2
      have e0 : t0 = 2 := z_beq (z_and e0).1
      subst e0
      obtain ⟨cB, e1⟩ := ht1 2 (by omega)
      rw [h2] at e1
      cases e1
      have hn := z_nar2 (x := x) (by omega) (by omega)
      exact va_bast hx hb hK hP hD hS q0 2 h1 h2 h6 hd (fun H1 locs1 => by rw [hn]; exact k H1 locs1)
  | lastore =>
    have el : ln = 1 := z_beq hlk
    subst el
    refine zs_asL (fun ws H locs ls rest a0 q0 n0 cA ty f i x hP hD hS h1 h2 h6 k => ?_) h kk
    obtain ⟨cB, e1⟩ := ht1 3 (by omega)
    rw [h2] at e1
    cases e1
    exact va_last hx hb hK hP hD hS q0 3 h1 h2 h6 hd k
  | aastore =>
    have el : ln = 1 := z_beq hlk
    subst el
    refine zs_sr (ok := z_okR TC) (fun ws H locs ls rest a0 q0 t0 n0 v qk ci cA ty f vs i hP hD hS h1 h2 h3 h4 h5 h6 k => ?_) h kk
    unfold z_okR at h4
    split at h4
    · rename_i x ex
      have e0 := z_beq h4
      subst e0
      obtain ⟨cB, q1, e0, e1⟩ := ht2 _ _ ex
      rw [show 4 + (t0 - 4) = t0 by omega, h2] at e1
      cases e1
      exact va_astq hx hb hK hP hD hS q0 t0 qk x h1 h2 h3 e0 h6 hd k
    · cases h4
  | arraylength =>
    have el : ln = 1 := z_beq hlk
    subst el
    have h : (match z_isc sk with
      | true => z_sn sc (pc + 1) ivs lo sk hp nc ns
      | false => z_len (pc + 1) ivs lo sk hp nc ns) = some q := h
    split at h
    · exact zs_sn hC (fun b L xs H locs ls rest c2 c3 c4 hS k => va_slen hx hb c2 c3 c4 hS hd k) h kk
    · exact zs_len (fun ws H locs ls rest a0 q0 t0 cA ty x hP h1 h2 k => va_alen hx hb hK hP q0 t0 h1 h2 rfl hd k) h kk
  | new i =>
    have hlk : (match cl[a]? with
      | some q => Nat.beq ln 3 && (z_wd tbl w (.classLink own i q.1) && (z_wd tbl b (.instantiable q.1 q.2.2) && z_wd tbl k.toNat (.initialized q.1)))
      | none => false) = true := hlk
    split at hlk
    · rename_i q0 eq0
      have el : ln = 3 := z_beq (z_and hlk).1
      subst el
      have e2 := z_wd_ok (z_and (z_and hlk).2).1
      have e3 := z_wd_ok (z_and (z_and (z_and hlk).2).2).1
      have e4 := z_wd_ok (z_and (z_and (z_and hlk).2).2).2
      have h : (match DF[a]? with
        | some dc => z_nw RC RS a dc (pc + 3) ivs lo sk hp nc ns
        | none => none) = some q := h
      split at h
      · rename_i dc edc
        obtain ⟨q1, g0, g1, g2⟩ := s2 a dc edc
        rw [eq0] at g0
        cases g0
        refine zs_nw (fun ws H locs ls rest hP hD hS h1 h2 k => ?_) h kk
        rw [g1] at h2 k
        exact va_new (ci := a) (C := q0.1) (T := q0.2.1) (N := q0.2.2) hx hb hts (s1 a q0 eq0).1 (TY a) (s1 a q0 eq0).2.1 hown (hts _ e2) (hts _ e3) (hts _ e4) hK hP hD hS hA eq0 g2 (Nat.le_trans h1 r1) (Nat.le_trans h2 r2) hd k
      · cases h
    · cases hlk
  | newarray ty0 =>
    have hlk : (Nat.beq ln 2 && (decide (newarray.typeOf ty0 = z_tt a) && (Nat.ble a 3 && z_wd tbl w (.arrayClass (z_tt a))))) = true := hlk
    have el : ln = 2 := z_beq (z_and hlk).1
    have e2 := of_decide_eq_true (z_and (z_and hlk).2).1
    have e3 := Nat.le_of_ble_eq_true (z_and (z_and (z_and hlk).2).2).1
    have e4 := z_wd_ok (z_and (z_and (z_and hlk).2).2).2
    subst el
    refine zs_na (fun ws H locs ls rest i n hP hD hS h1 h2 h3 h4 h5 k => ?_) h kk
    obtain ⟨cA, eA⟩ := ht1 a e3
    have hcb : ∀ t, componentBytes (z_tt t) ≤ 8 := fun t => by
      unfold z_tt
      split <;> decide
    have hn : i.toNatClampNeg = n := by show i.toInt.toNat = n; omega
    refine va_newa (a0 := z_a0 a n) hx hb (by rw [e2]; exact hts _ e4) e2 hK hP hD hS hA (fun cA => ?_) (fun q => by have := Int32.lt_iff_toInt_lt.mp q; have h0 : (0 : Int32).toInt = 0 := rfl; omega) hn (Nat.le_trans (Nat.mul_le_mul h2 (hcb a)) (by decide)) (Nat.le_trans h4 r1) (Nat.le_trans h5 r2) hd (fun q cB H1 hK1 hP1 hD1 hS1 => ?_)
    · rcases (show a = 0 ∨ a = 1 ∨ a = 2 ∨ a = 3 by omega) with rfl | rfl | rfl | rfl <;> rfl
    · have k1 := (hK1.2 tys.length (cB, z_tt a) (by rw [List.getElem?_append_right (Nat.le_refl _), Nat.sub_self]; rfl)).2
      have k2 := (hK.2 a _ eA).2
      have ec : cB = cA := by
        rcases (show a = 0 ∨ a = 1 ∨ a = 2 ∨ a = 3 by omega) with rfl | rfl | rfl | rfl <;> exact Option.some.inj (k1.symm.trans k2)
      subst ec
      exact k q cB _ H1 eA hP1 hD1 hS1
  | anewarray i =>
    have hlk : (match TC[a - 4]? with
      | some ci => match cl[ci]? with
        | some q => Nat.beq ln 3 && (Nat.ble 4 a && (z_wd tbl w (.classLink own i q.1) && z_wd tbl b (.arrayOver (.object q.1))))
        | none => false
      | none => false) = true := hlk
    split at hlk
    · rename_i ci eci
      split at hlk
      · rename_i q0 eq0
        have el : ln = 3 := z_beq (z_and hlk).1
        subst el
        have e1 := Nat.le_of_ble_eq_true (z_and (z_and hlk).2).1
        have e2 := z_wd_ok (z_and (z_and (z_and hlk).2).2).1
        have e3 := z_wd_ok (z_and (z_and (z_and hlk).2).2).2
        obtain ⟨cA, q1, g0, g1⟩ := ht2 _ _ eci
        rw [eq0] at g0
        cases g0
        rw [show 4 + (a - 4) = a by omega] at g1
        refine zs_nr (fun ws H locs ls rest i n hP hD hS h1 h2 h3 h4 h5 k => ?_) h kk
        have hn : i.toNatClampNeg = n := by show i.toInt.toNat = n; omega
        refine va_newq (C := q0.1) hx hb hown (hts _ e2) (va_AO.of (hts _ e3)) hK hP hD hS hA (fun q => by have := Int32.lt_iff_toInt_lt.mp q; have h0 : (0 : Int32).toInt = 0 := rfl; omega) hn (by omega) (Nat.le_trans h4 r1) (Nat.le_trans h5 r2) hd (fun q cB H1 hK1 hP1 hD1 hS1 => ?_)
        have k1 := (hK1.2 tys.length (cB, .object q0.1) (by rw [List.getElem?_append_right (Nat.le_refl _), Nat.sub_self]; rfl)).2
        have k2 := (hK.2 a _ g1).2
        obtain ⟨_, _, _, _, _, k1⟩ := k1
        obtain ⟨_, _, _, _, _, k2⟩ := k2
        have ec : cB = cA := Option.some.inj (k1.symm.trans k2)
        subst ec
        exact k q cB _ H1 g1 hP1 hD1 hS1
      · cases hlk
    · cases hlk
  | invokevirtual i =>
    have hlk : (Nat.beq ln 3 && (Nat.beq (VK a) 0 && z_wd tbl w (.methodLink own i (Y a)))) = true := hlk
    have el : ln = 3 := z_beq (z_and hlk).1
    have e2 := z_beq (z_and (z_and hlk).2).1
    have e3 := z_wd_ok (z_and (z_and hlk).2).2
    subst el
    exact hV i hd e2 e3 h
  | invokestatic i =>
    have hlk : (Nat.beq ln 3 && (match Nat.beq b 5 with
      | true => z_wd tbl w (.methodLink own i arraycopyName)
      | false => Nat.beq (VK a) 1 && z_wd tbl w (.methodLink own i (Y a)))) = true := hlk
    have el : ln = 3 := z_beq (z_and hlk).1
    have hlk2 := (z_and hlk).2
    subst el
    have h : (match Nat.beq b 5 with
      | true => z_cpy (pc + 3) ivs lo sk hp nc ns
      | false => z_inv ZD call RC RS a (pc + 3) ivs lo sk hp nc ns) = some q := h
    cases e5 : Nat.beq b 5 with
    | true =>
      rw [e5] at h hlk2
      have e2 := z_wd_ok hlk2
      have h : z_cpy (pc + 3) ivs lo sk hp nc ns = some q := h
      unfold z_cpy at h
      split at h
      · rename_i e6
        have e6 := Nat.le_of_ble_eq_true e6
        refine zs_cp (fun ws H locs ls rest a0 a1 q0 q1 n0 n1 cA ty f g kn kd ko lv hP hD hS hl h1 h2 h3 h4 h5 h6 h7 h8 h9 k => ?_) h kk
        have er : rest = [] := List.eq_nil_of_length_eq_zero (by omega)
        subst er
        obtain ⟨cB, eB⟩ := ht1 0 (by omega)
        rw [h3] at eB
        cases eB
        have nn : ∀ z : Int32, 0 ≤ z.toInt → ¬ z < 0 := fun z hz q => by
          have := Int32.lt_iff_toInt_lt.mp q
          have h0 : (0 : Int32).toInt = 0 := rfl
          omega
        exact va_copyi (R := R) hx hb (by rw [hml]; exact hl.1.symm) hown (hts _ e2) (hts _ s3) (hts _ s4) (hts _ s5) hK hP hD hS q0 q1 0 0 h1 h2 h3 h3 rfl (nn _ h6) (nn _ h5) (nn _ h4) h7 h8 (fun i _ => rfl) (by omega) (by show 0 + (5 + 2 + 11) ≤ _; omega) hd k
      · cases h
    | false =>
      rw [e5] at h hlk2
      exact hS i hd (z_beq (z_and hlk2).1) (z_wd_ok (z_and hlk2).2) h
  | invokespecial i =>
    have hlk : (Nat.beq ln 3 && (match Nat.beq b 4 with
      | true => z_wd tbl w (.methodLink own i Lib.objectInit)
      | false => Nat.beq (VK a) 2 && (match Nat.beq b 3 with
        | true => z_wd tbl w (.methodLinkNest own i (Y a) HN)
        | false => z_wd tbl w (.methodLink own i (Y a))))) = true := hlk
    have el : ln = 3 := z_beq (z_and hlk).1
    have hlk2 := (z_and hlk).2
    subst el
    have h : (match Nat.beq b 4 with
      | true => z_oi (pc + 3) ivs lo sk hp nc ns
      | false => z_inv ZD call RC RS a (pc + 3) ivs lo sk hp nc ns) = some q := h
    cases e4 : Nat.beq b 4 with
    | true =>
      rw [e4] at h hlk2
      have e2 := z_wd_ok hlk2
      refine zs_oi (fun H locs ls rest a0 lv hl hc k => ?_) h kk
      exact W.objInit (R := R) hx hb hown (hts _ e2) (hts _ s6) (hts _ s7) rfl (by rw [hml]; exact hl.1) rfl hd (by omega) (by show 2 * 0 + _ + 12 ≤ _; omega) k
    | false =>
      rw [e4] at h hlk2
      cases e3 : Nat.beq b 3 with
      | true =>
        rw [e3] at hlk2
        exact hN i hd (z_beq (z_and hlk2).1) (z_wd_ok (z_and hlk2).2) h
      | false =>
        rw [e3] at hlk2
        exact hI i hd (z_beq (z_and hlk2).1) (z_wd_ok (z_and hlk2).2) h
  | _ => cases (show (none : zQ) = some q from h)
end ZU
end
section
/-! ===== calls ===== -/
def z_rm (d mc ms : Nat) : Room := { frames := d, cells := mc, slots := ms, locals := 40 * d }
def z_Pc (D : va_G) (cl : List vw_C) (tys : List (ClassId × FieldType)) (ws : va_W) (av : List Value) (sz : Nat) : Array Value → State → Prop := va_Pc av (fun U => U.heap.size = sz ∧ va_P D cl ws U.heap ∧ va_K D cl tys U ∧ va_D (fun _ => True) ws)
def z_po (tys : List (ClassId × FieldType)) (ρ : List Int) (ws : va_W) (es : List zX) (rv : List Value) (u : List Int × va_W) : Prop := ∃ E ∈ es, ρ <+: u.1 ∧ z_ad ws <+: z_ad u.2 ∧ z_iv E.1 u.1 ∧ z_F (z_m u.1 (z_ad u.2)) E.2.1 rv ∧ z_F (z_H tys u.1 (z_ad u.2)) E.2.2 u.2
def z_Bo (D : va_G) (cl : List vw_C) (tys : List (ClassId × FieldType)) (A : Nat → Prop) (u : List Int × va_W) (t : State) : Prop := va_P D cl u.2 t.heap ∧ va_K D cl tys t ∧ va_D A u.2
def z_Qc (rk : Nat) (D : va_G) (cl : List vw_C) (tys : List (ClassId × FieldType)) (ρ : List Int) (ws : va_W) (es : List zX) (A : Nat → Prop) : Array Value → State → Outcome → State → Prop := match rk with
  | 2 => va_Ql (fun (r : Int64) u => z_po tys ρ ws es [.long r] u) (z_Bo D cl tys A) A
  | 3 => va_Qv (fun u => z_po tys ρ ws es [] u) (z_Bo D cl tys A) A
  | _ => va_Qi (fun (r : Int32) u => z_po tys ρ ws es [.int r] u) (z_Bo D cl tys A) A
/-- a method's contract, of any world that is as the run has it -/
def z_MET (l : Launch) (D : va_G) (cl : List vw_C) (tys : List (ClassId × FieldType)) (tbl : List Cond) (y : MethodName) (cc : ByteArray) (nL : Nat) (ret : Option FieldType) (d rk mc ms : Nat) (ivs : List zI) (as : List zV) (hp : List zC) (es : List zX) : Prop :=
  ∀ (ρ : List Int) (ws : va_W) (av : List Value) (sz : Nat), ρ[0]? = some 0 → z_iv ivs ρ → z_F (z_m ρ (z_ad ws)) as av → z_F (z_H tys ρ (z_ad ws)) hp ws → Met l y (Cond.code y cc nL ret :: tbl) (z_rm d mc ms) (z_Pc D cl tys ws av sz) (z_Qc rk D cl tys ρ ws es (va_A ws sz)) mc ms (va_A ws sz)
theorem z_blind {D : va_G} {cl : List vw_C} {tys : List (ClassId × FieldType)} {ws : va_W} {av : List Value} {sz : Nat} : FrameBlind (z_Pc D cl tys ws av sz) := fun a U g mk q => by
  obtain ⟨q0, q1, qP, qK, qD⟩ := q
  exact ⟨q0, q1, qP, va_K.moved (u := U) (U := U.calling g mk a) (Vm.Alike.refl U.vm) qK, qD⟩
theorem z_pre1 {D : va_G} {cl : List vw_C} {tys : List (ClassId × FieldType)} {ws : va_W} {av : List Value} {s : State} {H : Heap} {A : Nat → Prop} (hK : va_K D cl tys s) (hP : va_P D cl ws H) (hD : va_D A ws) : ∀ U : State, U.heap = H → s.WarmedH U.vm → z_Pc D cl tys ws av H.size av.toArray U := fun U hU hW => ⟨rfl, by rw [hU], by rw [hU]; exact hP, va_K.moved hW.alike hK, hD.weaken (fun _ _ _ _ => trivial)⟩
/-- words that hold where the machine has gone on -/
def z_wok (w : Cond) : Bool := match w with
  | .methodLinkNest _ _ _ _ => true
  | .fieldLinkNest _ _ _ _ _ _ => true
  | .arrayOver (.object _) => true
  | w => goodWord w
theorem z_wok_ok {w : Cond} (h : z_wok w = true) {args a' : Array Value} {s U : State} (hW : s.WarmedH U.vm) (hb : w.before args s = true) : w.before a' U = true := by
  unfold z_wok at h
  split at h
  · exact va_Nw.use rfl (va_Nw.warmM hW (va_Nw.of rfl hb))
  · exact va_Nw.use rfl (va_Nw.warmF hW (va_Nw.of rfl hb))
  · exact va_AO.use (va_AO.moved hW.alike (va_AO.of hb))
  · exact word_at hW (good_of_word h) hb
theorem z_F.revI {α β : Type} {R : α → β → Prop} {l : List α} {k : List β} (h : z_F R l.reverse k) : z_F R l k.reverse := by
  have := h.rev
  rw [List.reverse_reverse] at this
  exact this
theorem z_pops_ok : ∀ {n : Nat} {sk acc as rest : List zV}, z_pops n sk acc = some (as, rest) → ∃ x, sk = x ++ rest ∧ as = x.reverse ++ acc ∧ x.length = n
  | 0, sk, acc, as, rest, h => by
    cases h
    exact ⟨[], rfl, rfl, rfl⟩
  | n + 1, [], acc, as, rest, h => by cases h
  | n + 1, a :: sk, acc, as, rest, h => by
    obtain ⟨x, h1, h2, h3⟩ := z_pops_ok (n := n) (sk := sk) (acc := a :: acc) h
    refine ⟨a :: x, by rw [h1]; rfl, ?_, by rw [List.length_cons, h3]⟩
    rw [h2, List.reverse_cons, List.append_assoc]
    rfl
section ZV
variable {p : Program} {l : Launch} {e : Env} {R : Room} {s : State} {m : MethodId} {args : Array Value} {below : List Frame} {meth : Method} {c : Code} {Q : State → Prop} {D : va_G} {cl : List vw_C} {tys : List (ClassId × FieldType)} {A : Nat → Prop} {H0 : Heap} {nL : Nat} {ρ0 : List Int} {ad0 : List Nat}
variable {cc : ByteArray} {pc : Nat} {ivs : List zI} {lo : List (Nat × zV)} {sk : List zV} {hp : List zC} {nc ns : Nat} {q : List (Nat × zS)}
theorem z_g.call {ρ : List Int} {ws : va_W} {lv : List (Nat × Value)} {st rs rv : List Value} {H H1 : Heap} {locs locs1 : List Loc} {ls : Array Slot} {E : zX} {u : List Int × va_W} {rest : List zV} {nc' ns' : Nat} (hg : z_g D cl tys A H0 nL ρ0 ad0 (ivs, lo, sk, hp, nc, ns) ρ ws lv st H locs ls) (hr : z_F (z_m ρ (z_ad ws)) rest rs) (h1 : ρ <+: u.1) (h2 : z_ad ws <+: z_ad u.2) (h3 : z_iv E.1 u.1) (h4 : z_F (z_m u.1 (z_ad u.2)) E.2.1 rv) (h5 : z_F (z_H tys u.1 (z_ad u.2)) E.2.2 u.2) (hP : va_P D cl u.2 H1) (hD : va_D A u.2) (hS : va_S A H0 H1 locs1) :
    z_g D cl tys A H0 nL ρ0 ad0 (E.1, lo, E.2.1 ++ rest, E.2.2, nc', ns') u.1 u.2 lv (rv ++ rs) H1 locs1 ls := by
  obtain ⟨⟨a1, a3, a4⟩, b1, b3, b4, b5, b6, b7, b8, b9⟩ := hg
  exact ⟨⟨a1.trans h1, a3.trans h2, z_pre h1 a4⟩, h3, b3.mono (fun _ _ q => ⟨q.1, q.2.mono h1 h2⟩), z_F.app (hr.mono (fun _ _ q => q.mono h1 h2)) h4, h5, hP, hD, hS, b9⟩
theorem zs_inv {ZD : List zN} {call : zL} {RC RS mi nA rc rk mc ms nl : Nat} {T : List (List zE)} (hA : ∀ q, H0.size ≤ q → A q) (hz : ZD[mi]? = some (nA, rc, rk, mc, ms, nl, T))
    (hrun : ∀ (es : List zX) (as : List zV) (ρ : List Int) (ws : va_W) (av rs : List Value) (H : Heap) (locs : List Loc) (ls : Array Slot) (lv : List (Nat × Value)), call mi ivs as hp = some es → ρ[0]? = some 0 → z_iv ivs ρ → z_F (z_m ρ (z_ad ws)) as av → z_F (z_H tys ρ (z_ad ws)) hp ws → as.length = nA → z_rcv rc hp as = true → (rs.map fun v => v.category).sum ≤ 8 → nc + mc ≤ RC → ns + ms ≤ RS → va_P D cl ws H → va_D A ws → lv_has ls nL lv →
      va_Run p l e R s m args below meth c H locs nc ns mc ms (F0 m pc ls (av.reverse ++ rs)) rs (z_Qc rk D cl tys ρ ws es (va_A ws H.size) av.toArray) (va_A ws H.size))
    (h : z_inv ZD call RC RS mi (pc + 3) ivs lo sk hp nc ns = some q) (kk : ∀ z ∈ q, z_K p l e R s m args below meth c Q D cl tys A H0 nL ρ0 ad0 z.1 z.2) : z_K p l e R s m args below meth c Q D cl tys A H0 nL ρ0 ad0 pc (ivs, lo, sk, hp, nc, ns) := by
  unfold z_inv at h
  rw [hz] at h
  dsimp only at h
  split at h
  · rename_i as rest ep
    split at h
    · rename_i et
      have e1 := Nat.le_of_ble_eq_true (z_and et).1
      have e2 := Nat.le_of_ble_eq_true (z_and (z_and et).2).1
      have e3 := Nat.le_of_ble_eq_true (z_and (z_and (z_and et).2).2).1
      have e4 := (z_and (z_and (z_and et).2).2).2
      split at h
      · rename_i es ec
        cases h
        obtain ⟨x, p1, p2, p3⟩ := z_pops_ok ep
        rw [List.append_nil] at p2
        intro ρ ws lv st H locs ls hg
        have hsk := hg.xsk
        rw [p1] at hsk
        obtain ⟨k1, rs, rfl, f1, f2⟩ := hsk.split
        have fas : z_F (z_m ρ (z_ad ws)) as k1.reverse := by rw [p2]; exact f1.rev
        have hr := hrun es as ρ ws k1.reverse rs H locs ls lv ec hg.zero hg.xiv fas hg.xhp (by rw [p2, List.length_reverse]; exact p3) e4 (by rw [z_cats_ok f2]; exact e3) e1 e2 hg.xP hg.xD hg.xL
        rw [List.reverse_reverse] at hr
        have hF : ∀ q, va_A ws H.size q → A q := fun q hq => by
          rcases hq with ⟨k, e0, hq⟩ | hq
          · exact hg.xD.2 k (q, e0) hq
          · exact hA q (Nat.le_trans hg.xS.1 hq)
        have done : ∀ (rv : List Value) (u : List Int × va_W) (t : State) (H1 : Heap) (locs1 : List Loc), t.heap = H1 → z_po tys ρ ws es rv u → z_Bo D cl tys (va_A ws H.size) u t → va_S A H0 H1 locs1 → W p l e R s m args below meth c H1 locs1 (nc + mc) (ns + ms) Q (F0 m (pc + 3) ls (rv ++ rs)) := by
          intro rv u t H1 locs1 ht hpo hB hS1
          obtain ⟨E, hE, g1, g2, g3, g4, g5⟩ := hpo
          obtain ⟨j1, j2, j3⟩ := hB
          rw [ht] at j1
          exact kk (pc + 3, (E.1, lo, E.2.1 ++ rest, E.2.2, nc + mc, ns + ms)) (List.mem_map.mpr ⟨E, hE, rfl⟩) u.1 u.2 lv (rv ++ rs) H1 locs1 ls (hg.call f2 g1 g2 g3 g4 g5 j1 (j3.weaken (fun k q _ h => hF q.1 h)) hS1)
        unfold z_Qc at hr
        split at hr
        · exact va_calll hr hg.xS (fun q _ h => hF q h) hF (fun r u t H1 locs1 ht hvm hw hB hz1 hk1 hS1 => done [.long r] u t H1 locs1 ht hw hB hS1)
        · exact va_callv hr hg.xS (fun q _ h => hF q h) hF (fun u t H1 locs1 ht hvm hw hB hz1 hk1 hS1 => done [] u t H1 locs1 ht hw hB hS1)
        · exact va_calli hr hg.xS (fun q _ h => hF q h) hF (fun r u t H1 locs1 ht hvm hw hB hz1 hk1 hS1 => done [.int r] u t H1 locs1 ht hw hB hS1)
      · cases h
    · cases h
  · cases h
/-- what holds of a method that is called -/
def z_rtt (rk : Nat) : Option FieldType := match rk with
  | 0 => some .int
  | 1 => some .boolean
  | 2 => some .long
  | _ => none
def z_mok (tbl : List Cond) (cl : List vw_C) (y : MethodName) (cc : ByteArray) (nL : Nat) (ret : Option FieldType) (vk nA rc rk : Nat) : Prop :=
  plainName y.cls = true ∧ Cond.code y cc nL ret ∈ tbl ∧ Cond.initialized y.cls ∈ tbl ∧ (y.cls ≠ "java/lang/invoke/MethodHandle" ∧ y.cls ≠ "java/lang/invoke/VarHandle") ∧ nL ≤ 21 ∧ ret = z_rtt rk ∧
  (parseMethodDescriptor y.desc).map (fun d => d.parameters.length) = some (if vk = 1 then nA else nA - 1) ∧
  (vk = 0 → ∃ ci q, rc = ci + 1 ∧ cl[ci]? = some q ∧ q.1 = y.cls ∧ Cond.instanceMethod y ∈ tbl ∧ Cond.selects y.cls y y ∈ tbl) ∧
  (vk = 1 → Cond.static y ∈ tbl) ∧ (vk = 2 → y.name = "<init>" ∧ ret = none ∧ Cond.instanceMethod y ∈ tbl ∧ ∃ ci, rc = ci + 1)
theorem z_desc {y : MethodName} {n : Nat} (h : (parseMethodDescriptor y.desc).map (fun d => d.parameters.length) = some n) : ∀ sig, parseMethodDescriptor y.desc = some sig → n = sig.parameters.length := fun sig h1 => by
  rw [h1] at h
  exact (Option.some.inj h).symm
theorem z_rcv_ok {ρ : List Int} {ws : va_W} {hp : List zC} {as : List zV} {av : List Value} {ci : Nat} (hH : z_F (z_H tys ρ (z_ad ws)) hp ws) (ha : z_F (z_m ρ (z_ad ws)) as av) (h : z_rcv (ci + 1) hp as = true) : ∃ (b q0 : Nat) (As vs : List Value), av = .ref b :: As ∧ ws[q0]? = some (b, .inr (ci, vs)) := by
  unfold z_rcv at h
  dsimp only at h
  split at h
  · rename_i j o as
    split at h
    · rename_i ci' fs ec
      have e := z_beq h
      subst e
      obtain ⟨v, As, rfl, hv, -⟩ := ha.c1
      obtain ⟨b, ee, h1, rfl, vs, rfl, -⟩ := z_cell hH hv ec
      exact ⟨b, j, As, vs, rfl, h1⟩
    · cases h
  · cases h
theorem z_inv_ok {ZD : List zN} {call : zL} {RC RS d : Nat} {sc : Option Nat} {TC : List Nat} {Y : Nat → MethodName} {CC : Nat → ByteArray} {RT : Nat → Option FieldType} {VK : Nat → Nat} {HN own : String} {ini : Bool} {tbl : List Cond} {a : Nat}
    (CX : z_CX p R s m args meth c cc nL own ini D cl tys TC tbl A H0 RC RS d sc ρ0) (htb : ∀ w ∈ tbl, z_wok w = true)
    (hok : ∀ mi nA rc rk mc ms nl T, ZD[mi]? = some (nA, rc, rk, mc, ms, nl, T) → z_mok tbl cl (Y mi) (CC mi) nl (RT mi) (VK mi) nA rc rk)
    (hcall : ∀ mi nA rc rk mc ms nl T ivs as hp es, ZD[mi]? = some (nA, rc, rk, mc, ms, nl, T) → call mi ivs as hp = some es → z_MET l D cl tys tbl (Y mi) (CC mi) nl (RT mi) d rk mc ms ivs as hp es)
    (hl : (∃ i, decode cc pc = .ok (.invokevirtual i, 3) ∧ VK a = 0 ∧ Cond.methodLink own i (Y a) ∈ tbl) ∨ (∃ i, decode cc pc = .ok (.invokestatic i, 3) ∧ VK a = 1 ∧ Cond.methodLink own i (Y a) ∈ tbl) ∨ (∃ i, decode cc pc = .ok (.invokespecial i, 3) ∧ VK a = 2 ∧ Cond.methodLink own i (Y a) ∈ tbl) ∨ (∃ i, decode cc pc = .ok (.invokespecial i, 3) ∧ VK a = 2 ∧ Cond.methodLinkNest own i (Y a) HN ∈ tbl))
    (h : z_inv ZD call RC RS a (pc + 3) ivs lo sk hp nc ns = some q) (kk : ∀ z ∈ q, z_K p l e R s m args below meth c Q D cl tys A H0 nL ρ0 ad0 z.1 z.2) : z_K p l e R s m args below meth c Q D cl tys A H0 nL ρ0 ad0 pc (ivs, lo, sk, hp, nc, ns) := by
  obtain ⟨⟨hx, hb, hml, hown, hts⟩, hini, hK, hA, hTY, ⟨r1, r2, r3, r4⟩, hC⟩ := CX
  cases hz : ZD[a]? with
  | none =>
    unfold z_inv at h
    rw [hz] at h
    cases h
  | some dta =>
    obtain ⟨nA, rc, rk, mc, ms, nl, T⟩ := dta
    obtain ⟨k1, k2, k3, k4, k5, k6, k7, k8, k9, k10⟩ := hok a nA rc rk mc ms nl T hz
    have hwm : ∀ w ∈ tbl, ∀ (a' : Array Value) (U : State), s.WarmedH U.vm → w.before a' U = true := fun w hw a' U hW => z_wok_ok (htb w hw) hW (hts w hw)
    have hws : ∀ w ∈ (Cond.code (Y a) (CC a) nl (RT a) :: tbl), ∀ (a' : Array Value) (U : State), s.WarmedH U.vm → w.before a' U = true := fun w hw => by
      rcases List.mem_cons.mp hw with rfl | hw
      · exact hwm _ k2
      · exact hwm _ hw
    refine zs_inv (nA := nA) (rc := rc) (rk := rk) (mc := mc) (ms := ms) (nl := nl) (T := T) hA hz (fun es as ρ ws av rs H locs ls lv ec e0 e1 e2 e3 e4 e5 e6 e7 e8 hP hD hL => ?_) h kk
    have hM := hcall a nA rc rk mc ms nl T ivs as hp es hz ec ρ ws av H.size e0 e1 e2 e3
    have hlen : av.length = nA := by rw [← e2.len]; exact e4
    rcases hl with ⟨i, g1, g2, g3⟩ | ⟨i, g1, g2, g3⟩ | ⟨i, g1, g2, g3⟩ | ⟨i, g1, g2, g3⟩
    · rw [g2] at k7
      obtain ⟨ci, q0, j1, j2, j3, j4, j5⟩ := k8 g2
      subst j1
      obtain ⟨b, q1, As, vs, rfl, w1⟩ := z_rcv_ok e3 e2 e5
      have hr := va_runV (C := (Y a).cls) (bytes := CC a) (maxL := nl) (ret := RT a) (n := nA - 1) (As := As) (rest := rs) (g := F0 m pc ls ((.ref b :: As).reverse ++ rs)) (locs := locs) (cells := nc) (slots := ns) (below := below) (e := e) (meth := meth) (R := R) ⟨hx, hb, hml, hown, hts⟩ hM ⟨⟨rfl, rfl, r3, by show 8 + (nl + 11) + 40 * d ≤ _; omega, hws, List.mem_cons_self, hts _ k2, hts _ k3, k4, z_desc k7, hts _ g3⟩, hts _ j4, hts _ j5⟩ ⟨z_blind, by rw [← j3]; exact va_recv hK hP j2 w1, z_pre1 hK hP hD⟩ rfl (by rw [List.length_cons] at hlen; omega) hL.1 (by rw [List.reverse_cons, List.append_assoc]; rfl) (lv_room e6) g1 ⟨by omega, by omega⟩
      exact hr
    · rw [g2] at k7
      have hr := va_runS (bytes := CC a) (maxL := nl) (ret := RT a) (n := nA) (As := av) (rest := rs) (g := F0 m pc ls (av.reverse ++ rs)) (locs := locs) (cells := nc) (slots := ns) (below := below) (e := e) (meth := meth) (R := R) ⟨hx, hb, hml, hown, hts⟩ hM ⟨⟨rfl, rfl, r3, by show 8 + (nl + 11) + 40 * d ≤ _; omega, hws, List.mem_cons_self, hts _ k2, hts _ k3, k4, z_desc k7, hts _ g3⟩, hts _ (k9 g2)⟩ ⟨z_blind, z_pre1 hK hP hD⟩ rfl hlen hL.1 rfl (lv_room e6) g1 ⟨by omega, by omega⟩
      exact hr
    · rw [g2] at k7
      obtain ⟨j1, j2, j3, ci, j4⟩ := k10 g2
      subst j4
      rw [j2] at hws hM k2
      obtain ⟨b, q1, As, vs, rfl, w1⟩ := z_rcv_ok e3 e2 e5
      have hr := va_runI (bytes := CC a) (maxL := nl) (n := nA - 1) (b := b) (As := As) (rest := rs) (g := F0 m pc ls ((.ref b :: As).reverse ++ rs)) (locs := locs) (cells := nc) (slots := ns) (below := below) (e := e) (meth := meth) (R := R) ⟨hx, hb, hml, hown, hts⟩ hM ⟨⟨rfl, rfl, r3, by show 8 + (nl + 11) + 40 * d ≤ _; omega, hws, List.mem_cons_self, hts _ k2, hts _ k3, k4, z_desc k7, hts _ g3⟩, j1, hts _ j3⟩ ⟨z_blind, z_pre1 hK hP hD⟩ rfl (by rw [List.length_cons] at hlen; omega) hL.1 (by rw [List.reverse_cons, List.append_assoc]; rfl) (lv_room e6) g1 ⟨by omega, by omega⟩
      exact hr
    · rw [g2] at k7
      obtain ⟨j1, j2, j3, ci, j4⟩ := k10 g2
      subst j4
      rw [j2] at hws hM k2
      obtain ⟨b, q1, As, vs, rfl, w1⟩ := z_rcv_ok e3 e2 e5
      have hr := va_runIN (host := HN) (bytes := CC a) (maxL := nl) (n := nA - 1) (b := b) (As := As) (rest := rs) (g := F0 m pc ls ((.ref b :: As).reverse ++ rs)) (locs := locs) (cells := nc) (slots := ns) (below := below) (e := e) (meth := meth) (R := R) ⟨hx, hb, hml, hown, hts⟩ hM ⟨⟨⟨rfl, rfl, r3, by show 8 + (nl + 11) + 40 * d ≤ _; omega, hws, List.mem_cons_self⟩, hts _ k2, hts _ k3, k4, z_desc k7, hts _ g3⟩, j1, hts _ j3⟩ ⟨z_blind, z_pre1 hK hP hD⟩ rfl (by rw [List.length_cons] at hlen; omega) hL.1 (by rw [List.reverse_cons, List.append_assoc]; rfl) (lv_room e6) g1 ⟨by omega, by omega⟩
      exact hr
end ZV
end
section
/-! ===== a method's run ===== -/
def z_fi (b : List zE) (pc : Nat) : Option zE := match b with
  | [] => none
  | x :: b => match Nat.beq x.1 pc with
    | true => some x
    | false => z_fi b pc
def z_at (T : List (List zE)) (pc : Nat) : Option zE := match T[pc / 32]? with
  | some b => z_fi b pc
  | none => none
theorem z_fi_ok {pc : Nat} {y : zE} : ∀ {b : List zE}, z_fi b pc = some y → y ∈ b ∧ y.1 = pc
  | [], h => by cases h
  | x :: b, h => by
    unfold z_fi at h
    split at h
    · rename_i e
      cases h
      exact ⟨List.mem_cons_self, z_beq e⟩
    · obtain ⟨h1, h2⟩ := z_fi_ok h
      exact ⟨List.mem_cons_of_mem _ h1, h2⟩
theorem z_at_ok {T : List (List zE)} {pc : Nat} {y : zE} (h : z_at T pc = some y) : (∃ b ∈ T, y ∈ b) ∧ y.1 = pc := by
  unfold z_at at h
  split at h
  · rename_i b eb
    obtain ⟨h1, h2⟩ := z_fi_ok h
    exact ⟨⟨b, List.mem_of_getElem? eb, h1⟩, h2⟩
  · cases h
def z_isr (ins : Jvm.ClassFile.Instr) : Bool := match ins with
  | .ireturn => true
  | .lreturn => true
  | .return_ => true
  | _ => false
def z_run (ZD : List zN) (call : zL) (RC RS nL : Nat) (sc : Option Nat) (DF : List (List Nat)) (TC : List Nat) (T : List (List zE)) : Nat → List (Nat × zS) → List (Nat × zS) → Option (List (Nat × zS))
  | 0, _, _ => none
  | _ + 1, [], acc => some acc
  | n + 1, (pc, S) :: w, acc => match z_at T pc with
    | some x => match z_isr x.2.1 with
      | true => z_run ZD call RC RS nL sc DF TC T n w ((pc, S) :: acc)
      | false => match z_step ZD call RC RS nL sc DF TC (z_at T (pc + 1)) pc x.2.1 x.2.2.2.1 x.2.2.2.2.1 x.2.2.2.2.2.2 S.1 S.2.1 S.2.2.1 S.2.2.2.1 S.2.2.2.2.1 S.2.2.2.2.2 with
        | some q => z_run ZD call RC RS nL sc DF TC T n (q ++ w) acc
        | none => none
    | none => none
theorem z_run_ok {ZD : List zN} {call : zL} {RC RS nL : Nat} {sc : Option Nat} {DF : List (List Nat)} {TC : List Nat} {T : List (List zE)} {K : Nat → zS → Prop}
    (hs : ∀ (pc : Nat) (S : zS) (x : zE) (q : List (Nat × zS)), z_at T pc = some x → z_step ZD call RC RS nL sc DF TC (z_at T (pc + 1)) pc x.2.1 x.2.2.2.1 x.2.2.2.2.1 x.2.2.2.2.2.2 S.1 S.2.1 S.2.2.1 S.2.2.2.1 S.2.2.2.2.1 S.2.2.2.2.2 = some q → (∀ z ∈ q, K z.1 z.2) → K pc S) :
    ∀ (n : Nat) (w acc ex : List (Nat × zS)), z_run ZD call RC RS nL sc DF TC T n w acc = some ex → (∀ z ∈ acc, z ∈ ex) ∧ ((∀ z ∈ ex, K z.1 z.2) → ∀ z ∈ w, K z.1 z.2)
  | 0, w, acc, ex, h => by
    unfold z_run at h
    cases h
  | n + 1, [], acc, ex, h => by
    unfold z_run at h
    cases h
    exact ⟨fun z hz => hz, fun _ z hz => by cases hz⟩
  | n + 1, (pc, S) :: w, acc, ex, h => by
    unfold z_run at h
    split at h
    · rename_i x ex0
      split at h
      · obtain ⟨h1, h2⟩ := z_run_ok hs n w ((pc, S) :: acc) ex h
        refine ⟨fun z hz => h1 z (List.mem_cons_of_mem _ hz), fun hK z hz => ?_⟩
        rcases List.mem_cons.mp hz with rfl | hz
        · exact hK _ (h1 _ List.mem_cons_self)
        · exact h2 hK z hz
      · split at h
        · rename_i q eq
          obtain ⟨h1, h2⟩ := z_run_ok hs n (q ++ w) acc ex h
          refine ⟨h1, fun hK z hz => ?_⟩
          rcases List.mem_cons.mp hz with rfl | hz
          · exact hs pc S x q ex0 eq (fun z hz => h2 hK z (List.mem_append_left _ hz))
          · exact h2 hK z (List.mem_append_right _ hz)
        · cases h
    · cases h
def z_end (rk : Nat) (ins : Jvm.ClassFile.Instr) (S : zS) : Option zX := match ins, S.2.2.1 with
  | .ireturn, [(0, v, c)] => match rk with
    | 0 => some (S.1, [(0, v, c)], S.2.2.2.1)
    | 1 => match z_tyok 1 S.1 (0, v, c) with
      | true => some (S.1, [(0, v, c)], S.2.2.2.1)
      | false => none
    | _ => none
  | .lreturn, [(1, v, c)] => match rk with
    | 2 => some (S.1, [(1, v, c)], S.2.2.2.1)
    | _ => none
  | .return_, [] => match rk with
    | 3 => some (S.1, [], S.2.2.2.1)
    | _ => none
  | _, _ => none
def z_ends (rk mc ms : Nat) (T : List (List zE)) : List (Nat × zS) → Option (List zX)
  | [] => some []
  | (pc, S) :: ex => match z_at T pc with
    | some x => match Nat.ble S.2.2.2.2.1 mc && Nat.ble S.2.2.2.2.2 ms with
      | true => match z_end rk x.2.1 S with
        | some E => match z_ends rk mc ms T ex with
          | some es => some (E :: es)
          | none => none
        | none => none
      | false => none
    | none => none
theorem z_ends_ok {rk mc ms : Nat} {T : List (List zE)} : ∀ {ex : List (Nat × zS)} {es : List zX}, z_ends rk mc ms T ex = some es → ∀ z ∈ ex, ∃ x E, z_at T z.1 = some x ∧ z.2.2.2.2.2.1 ≤ mc ∧ z.2.2.2.2.2.2 ≤ ms ∧ z_end rk x.2.1 z.2 = some E ∧ E ∈ es
  | [], es, h => fun z hz => by cases hz
  | (pc, S) :: ex, es, h => by
    unfold z_ends at h
    split at h
    · rename_i x ex0
      split at h
      · rename_i et
        split at h
        · rename_i E eE
          split at h
          · rename_i es' ees
            cases h
            intro z hz
            rcases List.mem_cons.mp hz with rfl | hz
            · exact ⟨x, E, ex0, Nat.le_of_ble_eq_true (z_and et).1, Nat.le_of_ble_eq_true (z_and et).2, eE, List.mem_cons_self⟩
            · obtain ⟨x2, E2, g1, g2, g3, g4, g5⟩ := z_ends_ok ees z hz
              exact ⟨x2, E2, g1, g2, g3, g4, List.mem_cons_of_mem _ g5⟩
          · cases h
        · cases h
      · cases h
    · cases h
def z_args : Nat → List zV → List (Nat × zV)
  | _, [] => []
  | i, a :: as => (i, a) :: z_args (match Nat.beq a.1 1 with
    | true => i + 2
    | false => i + 1) as
theorem z_args_ok {ρ : List Int} {ad : List Nat} : ∀ {as : List zV} {av : List Value} (i : Nat), z_F (z_m ρ ad) as av → z_F (z_Lo ρ ad) (z_args i as) (lv_args i av)
  | [], [], i, _ => trivial
  | a :: as, v :: av, i, h => by
    refine ⟨⟨rfl, h.1⟩, ?_⟩
    have e : (match Nat.beq a.1 1 with
      | true => i + 2
      | false => i + 1) = (if v.category = 2 then i + 2 else i + 1) := by
      cases e : Nat.beq a.1 1 with
      | true =>
        have h1 := z_m.cat h.1
        have e := z_beq e
        rw [e] at h1
        have h2 : v.category = 2 := eq_of_beq h1
        rw [if_pos h2]
      | false =>
        have h1 := z_cat1 h.1 e
        rw [if_neg (by omega)]
    rw [e]
    exact z_args_ok _ h.2
  | [], _ :: _, i, h => h.elim
  | _ :: _, [], i, h => h.elim
theorem z_sl_len : ∀ av : List Value, (lg_sl av).length = (av.map fun v => v.category).sum
  | [] => rfl
  | v :: av => by
    have ih := z_sl_len av
    have e : lg_sl (v :: av) = (if v.category = 2 then [Slot.val v, Slot.second] else [Slot.val v]) ++ lg_sl av := rfl
    rw [e, List.length_append, ih, List.map_cons, List.sum_cons]
    rcases lv_cat v with h | h
    · rw [if_neg (by omega), h]; rfl
    · rw [if_pos h, h]; rfl
/-- the whole tree of calls, to a depth -/
def z_runM (ZD : List zN) (DF : List (List Nat)) (TC : List Nat) (FU : Nat) : Nat → zL
  | 0 => fun _ _ _ _ => none
  | d + 1 => fun mi ivs as hp => match ZD[mi]? with
    | some (_, _, rk, mc, ms, nl, T) => match Nat.ble (z_cats as) nl with
      | true => match z_run ZD (z_runM ZD DF TC FU d) mc ms nl none DF TC T FU [(0, (ivs, z_args 0 as, [], hp, 0, 0))] [] with
        | some ex => z_ends rk mc ms T ex
        | none => none
      | false => none
    | none => none
/-- what holds of all the methods -/
def z_ALL (tbl : List Cond) (cl : List vw_C) (TY : Nat → Nat → FieldType) (TC : List Nat) (DF : List (List Nat)) (Y : Nat → MethodName) (CC : Nat → ByteArray) (RT : Nat → Option FieldType) (VK : Nat → Nat) (INI : Nat → Bool) (HN : String) (ZD : List zN) : Prop :=
  (∀ w ∈ tbl, z_wok w = true) ∧ z_ST tbl cl TY DF ∧
  (∀ mi nA rc rk mc ms nl T, ZD[mi]? = some (nA, rc, rk, mc, ms, nl, T) → z_mok tbl cl (Y mi) (CC mi) nl (RT mi) (VK mi) nA rc rk ∧ (INI mi = true → (Y mi).name = "<init>") ∧ ∀ b ∈ T, ∀ x ∈ b, decode (CC mi) x.1 = .ok (x.2.1, x.2.2.1) ∧ z_lok tbl cl TY TC Y VK HN (Y mi).cls (INI mi) x.2.1 x.2.2.1 x.2.2.2.1 x.2.2.2.2.1 x.2.2.2.2.2.1 x.2.2.2.2.2.2 = true)
section ZW
variable {p : Program} {l : Launch} {e : Env} {R : Room} {s : State} {m : MethodId} {args : Array Value} {below : List Frame} {meth : Method} {c : Code} {Q : State → Prop} {D : va_G} {cl : List vw_C} {tys : List (ClassId × FieldType)} {A : Nat → Prop} {H0 : Heap} {nL : Nat} {ρ0 : List Int} {ad0 : List Nat} {cc : ByteArray}
variable {tbl : List Cond} {TY : Nat → Nat → FieldType} {TC : List Nat} {DF : List (List Nat)} {Y : Nat → MethodName} {CC : Nat → ByteArray} {RT : Nat → Option FieldType} {VK : Nat → Nat} {INI : Nat → Bool} {HN own : String} {ini : Bool} {ZD : List zN} {RC RS d : Nat} {sc : Option Nat} {call : zL} {T : List (List zE)}
/-- a frame's run, from the steps -/
theorem z_frame (CX : z_CX p R s m args meth c cc nL own ini D cl tys TC tbl A H0 RC RS d sc ρ0) (AL : z_ALL tbl cl TY TC DF Y CC RT VK INI HN ZD)
    (hT : ∀ b ∈ T, ∀ x ∈ b, decode cc x.1 = .ok (x.2.1, x.2.2.1) ∧ z_lok tbl cl TY TC Y VK HN own ini x.2.1 x.2.2.1 x.2.2.2.1 x.2.2.2.2.1 x.2.2.2.2.2.1 x.2.2.2.2.2.2 = true)
    (hcall : ∀ mi nA rc rk mc ms nl T ivs as hp es, ZD[mi]? = some (nA, rc, rk, mc, ms, nl, T) → call mi ivs as hp = some es → z_MET l D cl tys tbl (Y mi) (CC mi) nl (RT mi) d rk mc ms ivs as hp es)
    (n : Nat) (w acc ex : List (Nat × zS)) (h : z_run ZD call RC RS nL sc DF TC T n w acc = some ex) (hK : ∀ z ∈ ex, z_K p l e R s m args below meth c Q D cl tys A H0 nL ρ0 ad0 z.1 z.2) : ∀ z ∈ w, z_K p l e R s m args below meth c Q D cl tys A H0 nL ρ0 ad0 z.1 z.2 := by
  obtain ⟨al1, al2, al3⟩ := AL
  refine (z_run_ok (K := z_K p l e R s m args below meth c Q D cl tys A H0 nL ρ0 ad0) (fun pc S x q hat hst hq => ?_) n w acc ex h).2 hK
  obtain ⟨ivs, lo, sk, hp, nc, ns⟩ := S
  obtain ⟨⟨b, hb, hxb⟩, he⟩ := z_at_ok hat
  obtain ⟨hd, hlk⟩ := hT b hb x hxb
  rw [he] at hd
  have hok := fun mi nA rc rk mc ms nl T hz => (al3 mi nA rc rk mc ms nl T hz).1
  refine z_step_ok CX al2 hd hlk (fun y hy => ?_) (fun i g1 g2 g3 g4 => ?_) (fun i g1 g2 g3 g4 => ?_) (fun i g1 g2 g3 g4 => ?_) (fun i g1 g2 g3 g4 => ?_) hst hq
  · obtain ⟨⟨b2, hb2, hxb2⟩, he2⟩ := z_at_ok hy
    obtain ⟨hd2, hlk2⟩ := hT b2 hb2 y hxb2
    rw [he2] at hd2
    refine ⟨hd2, fun cd off ey => ?_⟩
    rw [ey] at hlk2
    exact z_beq hlk2
  · exact z_inv_ok (HN := HN) CX al1 hok hcall (Or.inl ⟨i, g1, g2, g3⟩) g4 hq
  · exact z_inv_ok (HN := HN) CX al1 hok hcall (Or.inr (Or.inl ⟨i, g1, g2, g3⟩)) g4 hq
  · exact z_inv_ok (HN := HN) CX al1 hok hcall (Or.inr (Or.inr (Or.inl ⟨i, g1, g2, g3⟩))) g4 hq
  · exact z_inv_ok (HN := HN) CX al1 hok hcall (Or.inr (Or.inr (Or.inr ⟨i, g1, g2, g3⟩))) g4 hq
end ZW
theorem z_runM_ok {l : Launch} {D : va_G} {cl : List vw_C} {tys : List (ClassId × FieldType)} {tbl : List Cond} {TY : Nat → Nat → FieldType} {TC : List Nat} {DF : List (List Nat)} {Y : Nat → MethodName} {CC : Nat → ByteArray} {RT : Nat → Option FieldType} {VK : Nat → Nat} {INI : Nat → Bool} {HN : String} {ZD : List zN} {FU : Nat} (AL : z_ALL tbl cl TY TC DF Y CC RT VK INI HN ZD) (hTY : z_TYs cl TC tys) :
    ∀ (d mi nA rc rk mc ms nl : Nat) (T : List (List zE)) (ivs : List zI) (as : List zV) (hp : List zC) (es : List zX), ZD[mi]? = some (nA, rc, rk, mc, ms, nl, T) → z_runM ZD DF TC FU d mi ivs as hp = some es → z_MET l D cl tys tbl (Y mi) (CC mi) nl (RT mi) d rk mc ms ivs as hp es
  | 0, mi, nA, rc, rk, mc, ms, nl, T, ivs, as, hp, es, hz, h => by
    unfold z_runM at h
    cases h
  | d + 1, mi, nA, rc, rk, mc, ms, nl, T, ivs, as, hp, es, hz, h => by
    have ih := z_runM_ok (l := l) (D := D) (FU := FU) AL hTY d
    unfold z_runM at h
    rw [hz] at h
    dsimp only at h
    split at h
    · rename_i ec
      have ec := Nat.le_of_ble_eq_true ec
      split at h
      · rename_i ex er
        obtain ⟨k0, kini, kT⟩ := AL.2.2 mi nA rc rk mc ms nl T hz
        obtain ⟨k1, k2, k3, k4, k5, k6, -⟩ := k0
        intro ρ ws av sz e0 e1 e2 e3
        refine Met.ofW (cc := CC mi) (maxL := nl) (ret := RT mi) k1 rfl ?_
        intro p e s m args below meth c s₁ B hml hv
        obtain ⟨rfl, hsz, hP, hK, hD0⟩ := hv
        have hx := B.exec
        have hb := B.bytes
        have hr := B.returns
        have hts0 := atoms_spec (ws := Cond.code (Y mi) (CC mi) nl (RT mi) :: tbl) B.pre
        have hown : s.vm.findClass (Y mi).cls = some m.cls := findClass_of_methodNamed B.named
        have hlocks := B.notSynchronized
        have hnm : meth.name = (Y mi).name := (name_of_methodNamed B.named B.method).1
        subst hsz
        have hD := hD0.self (sz := s.heap.size)
        have CX : z_CX p (z_rm (d + 1) mc ms) s m av.toArray meth c (CC mi) nl (Y mi).cls (INI mi) D cl tys TC tbl (va_A ws s.heap.size) s.heap mc ms d none ρ := by
          refine ⟨⟨hx, hb, hml, hown, fun w hw => hts0 w (List.mem_cons_of_mem _ hw)⟩, fun h => hnm.trans (kini h), hK, fun q h => Or.inr h, hTY, ⟨Nat.le_refl _, Nat.le_refl _, Nat.le_refl _, Nat.le_refl _⟩, trivial⟩
        have hl := lv_entry av (n := nl) (by rw [z_sl_len, z_cats_ok e2]; exact ec)
        rw [lg_entry_eq]
        generalize (lg_sl av ++ List.replicate (nl - (lg_sl av).length) Slot.unset).toArray = ls at hl ⊢
        have main := z_frame (p := p) (e := e) (below := below) (Q := MQ below (z_Qc rk D cl tys ρ ws es (va_A ws s.heap.size)) av.toArray s mc ms (va_A ws s.heap.size)) (ad0 := z_ad ws) CX AL kT ih FU _ _ ex er (fun z hz' => ?_) (0, (ivs, z_args 0 as, [], hp, 0, 0)) List.mem_cons_self
        · exact main ρ ws (lv_args 0 av) [] s.heap [] ls ⟨⟨List.prefix_refl _, List.prefix_refl _, e0⟩, e1, z_args_ok 0 e2, trivial, e3, hP, hD, va_S.rf, hl⟩
        · obtain ⟨x, E, g1, g2, g3, g4, g5⟩ := z_ends_ok h z hz'
          obtain ⟨pc, ivs', lo', sk', hp', nc', ns'⟩ := z
          obtain ⟨⟨b, hb1, hxb⟩, he⟩ := z_at_ok g1
          obtain ⟨hd, hlk⟩ := kT b hb1 x hxb
          rw [he] at hd
          intro ρ' ws' lv' st' H' locs' ls' hg
          refine W.widen g2 g3 ?_
          have hK' := hK
          have hpo : ∀ rv, z_F (z_m ρ' (z_ad ws')) E.2.1 rv → E.1 = ivs' → E.2.2 = hp' → z_po tys ρ ws es rv (ρ', ws') := fun rv h1 h2 h3 => ⟨E, g5, hg.1.1, hg.1.2.1, by rw [h2]; exact hg.xiv, h1, by rw [h3]; exact hg.xhp⟩
          have hBo : ∀ t : State, t.heap = H' → s.WarmedH t.vm → z_Bo D cl tys (va_A ws s.heap.size) (ρ', ws') t := fun t ht hW => ⟨by rw [ht]; exact hg.xP, va_K.moved hW.alike hK', hg.xD⟩
          unfold z_end at g4
          split at g4
          · rename_i v c0 ei es0
            have es0 : sk' = [(0, v, c0)] := es0
            subst es0
            have hln : x.2.2.1 = 1 := by
              rw [ei] at hlk
              exact z_beq hlk
            rw [ei, hln] at hd
            obtain ⟨v1, st1, rfl, hv1, hs1⟩ := hg.xsk.c1
            have hs1 : st1 = [] := by
              cases st1 with
              | nil => rfl
              | cons _ _ => exact hs1.elim
            subst hs1
            obtain ⟨i, rfl, hi⟩ := id hv1
            split at g4
            · cases g4
              have hr : meth.sig.returnType = some .int := hr.trans k6
              exact W.iret hx hb hr (fun t ht hW => ⟨⟨i, (ρ', ws'), rfl, hpo [.int i] ⟨hv1, trivial⟩ rfl rfl, hBo t ht hW⟩, hg.xS.F ht⟩) hg.xS.2.2 hd
            · split at g4
              · rename_i ety
                cases g4
                have hr : meth.sig.returnType = some .boolean := hr.trans k6
                have htv := z_tyok_ok hg.xiv hv1 ety
                have hnn : narrow .boolean (.int i) = .int i := by
                  rcases htv with h | h
                  · cases h
                    rfl
                  · cases h
                    rfl
                exact W.zret hx hb hr hnn (fun t ht hW => ⟨⟨i, (ρ', ws'), rfl, hpo [.int i] ⟨hv1, trivial⟩ rfl rfl, hBo t ht hW⟩, hg.xS.F ht⟩) hg.xS.2.2 hd
              · cases g4
            · cases g4
          · rename_i v c0 ei es0
            have es0 : sk' = [(1, v, c0)] := es0
            subst es0
            have hln : x.2.2.1 = 1 := by
              rw [ei] at hlk
              exact z_beq hlk
            rw [ei, hln] at hd
            obtain ⟨v1, st1, rfl, hv1, hs1⟩ := hg.xsk.c1
            have hs1 : st1 = [] := by
              cases st1 with
              | nil => rfl
              | cons _ _ => exact hs1.elim
            subst hs1
            obtain ⟨i, rfl, hi⟩ := id hv1
            split at g4
            · cases g4
              have hr : meth.sig.returnType = some .long := hr.trans k6
              exact W.lret hx hb hr (fun t ht hW => ⟨⟨i, (ρ', ws'), rfl, hpo [.long i] ⟨hv1, trivial⟩ rfl rfl, hBo t ht hW⟩, hg.xS.F ht⟩) hg.xS.2.2 hd
            · cases g4
          · rename_i ei es0
            have es0 : sk' = [] := es0
            subst es0
            have hln : x.2.2.1 = 1 := by
              rw [ei] at hlk
              exact z_beq hlk
            rw [ei, hln] at hd
            have hs1 : st' = [] := by
              have := hg.xsk
              cases st' with
              | nil => rfl
              | cons _ _ => exact this.elim
            subst hs1
            split at g4
            · cases g4
              have hr : meth.sig.returnType = none := hr.trans k6
              exact W.vret hx hb hr (fun t ht hW => ⟨⟨(ρ', ws'), rfl, hpo [] trivial rfl rfl, hBo t ht hW⟩, hg.xS.F ht⟩) hg.xS.2.2 hd
            · cases g4
          · cases g4
      · cases h
    · cases h
end
section
/-! ===== what a program decides of the methods ===== -/
def z_vkB (tbl : List Cond) (cl : List vw_C) (y : MethodName) (ret : Option FieldType) (vk rc w3 w4 : Nat) : Bool := match vk, rc with
  | 0, ci + 1 => match cl[ci]? with
    | some q => decide (q.1 = y.cls) && (z_wd tbl w3 (.instanceMethod y) && z_wd tbl w4 (.selects y.cls y y))
    | none => false
  | 1, _ => z_wd tbl w3 (.static y)
  | 2, _ + 1 => decide (y.name = "<init>") && (decide (ret = none) && z_wd tbl w3 (.instanceMethod y))
  | _, _ => false
def z_mokB (tbl : List Cond) (cl : List vw_C) (y : MethodName) (cc : ByteArray) (nL : Nat) (ret : Option FieldType) (vk nA rc rk w1 w2 w3 w4 : Nat) : Bool :=
  plainName y.cls && (z_wd tbl w1 (.code y cc nL ret) && (z_wd tbl w2 (.initialized y.cls) && (decide (y.cls ≠ "java/lang/invoke/MethodHandle") && (decide (y.cls ≠ "java/lang/invoke/VarHandle") && (Nat.ble nL 21 && (decide (ret = z_rtt rk) && (decide ((parseMethodDescriptor y.desc).map (fun d => d.parameters.length) = some (if vk = 1 then nA else nA - 1)) && z_vkB tbl cl y ret vk rc w3 w4)))))))
theorem z_vkB_ok {tbl : List Cond} {cl : List vw_C} {y : MethodName} {ret : Option FieldType} {vk rc w3 w4 : Nat} (h : z_vkB tbl cl y ret vk rc w3 w4 = true) : (vk = 0 → ∃ ci q, rc = ci + 1 ∧ cl[ci]? = some q ∧ q.1 = y.cls ∧ Cond.instanceMethod y ∈ tbl ∧ Cond.selects y.cls y y ∈ tbl) ∧
    (vk = 1 → Cond.static y ∈ tbl) ∧ (vk = 2 → y.name = "<init>" ∧ ret = none ∧ Cond.instanceMethod y ∈ tbl ∧ ∃ ci, rc = ci + 1) := by
  unfold z_vkB at h
  split at h
  · rename_i ci
    split at h
    · rename_i q eq0
      obtain ⟨g1, g⟩ := z_and h
      obtain ⟨g2, g3⟩ := z_and g
      exact ⟨fun _ => ⟨ci, q, rfl, eq0, of_decide_eq_true g1, z_wd_ok g2, z_wd_ok g3⟩, (fun q => by omega), (fun q => by omega)⟩
    · cases h
  · exact ⟨(fun q => by omega), fun _ => z_wd_ok h, (fun q => by omega)⟩
  · rename_i ci
    obtain ⟨g1, g⟩ := z_and h
    obtain ⟨g2, g3⟩ := z_and g
    exact ⟨(fun q => by omega), (fun q => by omega), fun _ => ⟨of_decide_eq_true g1, of_decide_eq_true g2, z_wd_ok g3, ci, rfl⟩⟩
  · cases h
theorem z_mokB_ok {tbl : List Cond} {cl : List vw_C} {y : MethodName} {cc : ByteArray} {nL : Nat} {ret : Option FieldType} {vk nA rc rk w1 w2 w3 w4 : Nat} (h : z_mokB tbl cl y cc nL ret vk nA rc rk w1 w2 w3 w4 = true) : z_mok tbl cl y cc nL ret vk nA rc rk := by
  obtain ⟨h1, h⟩ := z_and h
  obtain ⟨h2, h⟩ := z_and h
  obtain ⟨h3, h⟩ := z_and h
  obtain ⟨h4, h⟩ := z_and h
  obtain ⟨h5, h⟩ := z_and h
  obtain ⟨h6, h⟩ := z_and h
  obtain ⟨h7, h⟩ := z_and h
  obtain ⟨h8, h⟩ := z_and h
  exact ⟨h1, z_wd_ok h2, z_wd_ok h3, ⟨of_decide_eq_true h4, of_decide_eq_true h5⟩, Nat.le_of_ble_eq_true h6, of_decide_eq_true h7, of_decide_eq_true h8, z_vkB_ok h⟩
def z_tok (tbl : List Cond) (cl : List vw_C) (TY : Nat → Nat → FieldType) (TC : List Nat) (Y : Nat → MethodName) (VK : Nat → Nat) (HN own : String) (ini : Bool) (cc : ByteArray) (T : List (List zE)) : Bool :=
  T.all (fun b => b.all (fun x => decide (decode cc x.1 = .ok (x.2.1, x.2.2.1)) && z_lok tbl cl TY TC Y VK HN own ini x.2.1 x.2.2.1 x.2.2.2.1 x.2.2.2.2.1 x.2.2.2.2.2.1 x.2.2.2.2.2.2))
theorem z_tok_ok {tbl : List Cond} {cl : List vw_C} {TY : Nat → Nat → FieldType} {TC : List Nat} {Y : Nat → MethodName} {VK : Nat → Nat} {HN own : String} {ini : Bool} {cc : ByteArray} {T : List (List zE)} (h : z_tok tbl cl TY TC Y VK HN own ini cc T = true) :
    ∀ b ∈ T, ∀ x ∈ b, decode cc x.1 = .ok (x.2.1, x.2.2.1) ∧ z_lok tbl cl TY TC Y VK HN own ini x.2.1 x.2.2.1 x.2.2.2.1 x.2.2.2.2.1 x.2.2.2.2.2.1 x.2.2.2.2.2.2 = true := fun b hb x hx => by
  have h1 := List.all_eq_true.mp (List.all_eq_true.mp h b hb) x hx
  have h2 := z_and h1
  exact ⟨of_decide_eq_true h2.1, h2.2⟩
def z_B (tbl : List Cond) (cl : List vw_C) (TY : Nat → Nat → FieldType) (TC : List Nat) (Y : Nat → MethodName) (CC : Nat → ByteArray) (RT : Nat → Option FieldType) (VK : Nat → Nat) (INI : Nat → Bool) (HN : String) (ZD : List zN) (WS : List (Nat × Nat × Nat × Nat)) (mi : Nat) : Bool := match ZD[mi]?, WS[mi]? with
  | some (nA, rc, rk, _, _, nl, T), some (w1, w2, w3, w4) => z_mokB tbl cl (Y mi) (CC mi) nl (RT mi) (VK mi) nA rc rk w1 w2 w3 w4 && ((!(INI mi) || decide ((Y mi).name = "<init>")) && z_tok tbl cl TY TC Y VK HN (Y mi).cls (INI mi) (CC mi) T)
  | _, _ => false
theorem z_B_ok {tbl : List Cond} {cl : List vw_C} {TY : Nat → Nat → FieldType} {TC : List Nat} {Y : Nat → MethodName} {CC : Nat → ByteArray} {RT : Nat → Option FieldType} {VK : Nat → Nat} {INI : Nat → Bool} {HN : String} {ZD : List zN} {WS : List (Nat × Nat × Nat × Nat)} (h : ∀ mi, mi < ZD.length → z_B tbl cl TY TC Y CC RT VK INI HN ZD WS mi = true) :
    ∀ mi nA rc rk mc ms nl T, ZD[mi]? = some (nA, rc, rk, mc, ms, nl, T) → z_mok tbl cl (Y mi) (CC mi) nl (RT mi) (VK mi) nA rc rk ∧ (INI mi = true → (Y mi).name = "<init>") ∧ ∀ b ∈ T, ∀ x ∈ b, decode (CC mi) x.1 = .ok (x.2.1, x.2.2.1) ∧ z_lok tbl cl TY TC Y VK HN (Y mi).cls (INI mi) x.2.1 x.2.2.1 x.2.2.2.1 x.2.2.2.2.1 x.2.2.2.2.2.1 x.2.2.2.2.2.2 = true := by
  intro mi nA rc rk mc ms nl T hz
  have h1 := h mi (List.getElem?_eq_some_iff.mp hz).1
  unfold z_B at h1
  rw [hz] at h1
  split at h1
  · rename_i e1 e2
    cases e1
    obtain ⟨g1, g⟩ := z_and h1
    obtain ⟨g2, g3⟩ := z_and g
    refine ⟨z_mokB_ok g1, fun hi => ?_, z_tok_ok g3⟩
    rw [hi] at g2
    exact of_decide_eq_true g2
  · cases h1
theorem z_rng_all {f : Nat → Bool} {a n i : Nat} (h : (List.range' a n).all f = true) (h1 : a ≤ i) (h2 : i < a + n) : f i = true := List.all_eq_true.mp h i (List.mem_range'_1.mpr ⟨h1, h2⟩)
/-- the law's run: every end answers 1 -/
def z_ok1 (T : List (List zE)) (z : Nat × zS) : Bool := match z_at T z.1 with
  | some x => match x.2.1, z.2.2.2.1 with
    | .ireturn, [(0, 0, .ofNat 1)] => Nat.ble z.2.2.2.2.2.1 600000 && Nat.ble z.2.2.2.2.2.2 7302250
    | _, _ => false
  | none => false
def z_lawB (ZD : List zN) (DF : List (List Nat)) (TC : List Nat) (T : List (List zE)) (FU d nL L : Nat) (w : List (Nat × zS)) : Bool := match z_run ZD (z_runM ZD DF TC FU d) 600000 7302250 nL (some L) DF TC T FU w [] with
  | some ex => ex.all (z_ok1 T)
  | none => false
end
section
/-! ===== a run in pieces ===== -/
def z_wl (ZD : List zN) (call : zL) (RC RS nL : Nat) (sc : Option Nat) (DF : List (List Nat)) (TC : List Nat) (T : List (List zE)) : Nat → List (Nat × zS) → Option (List (Nat × zS))
  | 0, w => some w
  | _ + 1, [] => some []
  | n + 1, (pc, S) :: w => match z_at T pc with
    | some x => match z_step ZD call RC RS nL sc DF TC (z_at T (pc + 1)) pc x.2.1 x.2.2.2.1 x.2.2.2.2.1 x.2.2.2.2.2.2 S.1 S.2.1 S.2.2.1 S.2.2.2.1 S.2.2.2.2.1 S.2.2.2.2.2 with
      | some q => z_wl ZD call RC RS nL sc DF TC T n (q ++ w)
      | none => none
    | none => none
theorem z_wl_ok {ZD : List zN} {call : zL} {RC RS nL : Nat} {sc : Option Nat} {DF : List (List Nat)} {TC : List Nat} {T : List (List zE)} {K : Nat → zS → Prop}
    (hs : ∀ (pc : Nat) (S : zS) (x : zE) (q : List (Nat × zS)), z_at T pc = some x → z_step ZD call RC RS nL sc DF TC (z_at T (pc + 1)) pc x.2.1 x.2.2.2.1 x.2.2.2.2.1 x.2.2.2.2.2.2 S.1 S.2.1 S.2.2.1 S.2.2.2.1 S.2.2.2.2.1 S.2.2.2.2.2 = some q → (∀ z ∈ q, K z.1 z.2) → K pc S) :
    ∀ (n : Nat) (w ex : List (Nat × zS)), z_wl ZD call RC RS nL sc DF TC T n w = some ex → (∀ z ∈ ex, K z.1 z.2) → ∀ z ∈ w, K z.1 z.2
  | 0, w, ex, h, hK => by
    unfold z_wl at h
    cases h
    exact hK
  | n + 1, [], ex, h, hK => fun z hz => by cases hz
  | n + 1, (pc, S) :: w, ex, h, hK => by
    unfold z_wl at h
    split at h
    · rename_i x ex0
      split at h
      · rename_i q eq
        have h2 := z_wl_ok hs n (q ++ w) ex h hK
        intro z hz
        rcases List.mem_cons.mp hz with rfl | hz
        · exact hs pc S x q ex0 eq (fun z hz => h2 z (List.mem_append_left _ hz))
        · exact h2 z (List.mem_append_right _ hz)
      · cases h
    · cases h
/-- a symbol's bounds, cut at places -/
def z_parts (ivs : List zI) (x : Nat) (h : Int) : Int → List Int → List (List zI)
  | l, [] => [ivs.set x (l, h)]
  | l, c :: cs => ivs.set x (l, c) :: z_parts ivs x h (c + 1) cs
theorem z_iv.set1 {ivs : List zI} {ρ : List Int} {x : Nat} {w l h : Int} (hv : z_iv ivs ρ) (hw : ρ[x]? = some w) (h1 : l ≤ w) (h2 : w ≤ h) : z_iv (ivs.set x (l, h)) ρ := by
  have k := z_F.set (R := fun (b : zI) (z : Int) => b.2 < b.1 ∨ (b.1 ≤ z ∧ z ≤ b.2)) (a := (l, h)) (b := w) (Or.inr ⟨h1, h2⟩) hv x
  have e : ρ.set x w = ρ := by
    apply List.ext_getElem?
    intro i
    by_cases hi : x = i
    · subst hi
      rw [List.getElem?_set_self (List.getElem?_eq_some_iff.mp hw).1, hw]
    · rw [List.getElem?_set_ne hi]
  rw [e] at k
  exact k
theorem z_parts_ok {ivs : List zI} {ρ : List Int} {x : Nat} {w h : Int} (hv : z_iv ivs ρ) (hw : ρ[x]? = some w) (h2 : w ≤ h) : ∀ (cs : List Int) (l : Int), l ≤ w → ∃ i ∈ z_parts ivs x h l cs, z_iv i ρ
  | [], l, h1 => ⟨_, List.mem_singleton.mpr rfl, hv.set1 hw h1 h2⟩
  | c :: cs, l, h1 => by
    by_cases hc : w ≤ c
    · exact ⟨_, List.mem_cons_self, hv.set1 hw h1 hc⟩
    · obtain ⟨i, g1, g2⟩ := z_parts_ok hv hw h2 cs (c + 1) (by omega)
      exact ⟨i, List.mem_cons_of_mem _ g1, g2⟩
def z_pt (x : Nat) (l h : Int) (cs : List Int) (z : Nat × zS) : List (Nat × zS) := (z_parts z.2.1 x h l cs).map (fun v => (z.1, (v, z.2.2)))
section ZY
variable {p : Program} {l : Launch} {e : Env} {R : Room} {s : State} {m : MethodId} {args : Array Value} {below : List Frame} {meth : Method} {c : Code} {Q : State → Prop} {D : va_G} {cl : List vw_C} {tys : List (ClassId × FieldType)} {A : Nat → Prop} {H0 : Heap} {nL : Nat} {ρ0 : List Int} {ad0 : List Nat}
theorem z_pt_ok {x : Nat} {a b : Int} {cs : List Int} {z : Nat × zS} (hx : ∃ w, ρ0[x]? = some w ∧ a ≤ w ∧ w ≤ b) (h : ∀ y ∈ z_pt x a b cs z, z_K p l e R s m args below meth c Q D cl tys A H0 nL ρ0 ad0 y.1 y.2) : z_K p l e R s m args below meth c Q D cl tys A H0 nL ρ0 ad0 z.1 z.2 := by
  obtain ⟨pc, ivs, lo, sk, hp, nc, ns⟩ := z
  obtain ⟨w, h1, h2, h3⟩ := hx
  intro ρ ws lv st H locs ls hg
  obtain ⟨i, g1, g2⟩ := z_parts_ok hg.xiv (z_pre hg.1.1 h1) h3 cs a h2
  exact h (pc, (i, lo, sk, hp, nc, ns)) (List.mem_map.mpr ⟨i, g1, rfl⟩) ρ ws lv st H locs ls (hg.more (List.prefix_refl _) g2)
end ZY
/-! states that are the same -/
def z_eqL {α : Type} (f : α → α → Bool) : List α → List α → Bool
  | [], [] => true
  | a :: l, b :: k => f a b && z_eqL f l k
  | _, _ => false
theorem z_eqL_ok {α : Type} {f : α → α → Bool} (hf : ∀ a b, f a b = true → a = b) : ∀ {l k : List α}, z_eqL f l k = true → l = k
  | [], [], _ => rfl
  | a :: l, b :: k, h => by
    have h1 := z_and h
    rw [hf a b h1.1, z_eqL_ok hf h1.2]
  | [], _ :: _, h => by cases h
  | _ :: _, [], h => by cases h
def z_eqV (a b : zV) : Bool := Nat.beq a.1 b.1 && (Nat.beq a.2.1 b.2.1 && z_ieq a.2.2 b.2.2)
theorem z_eqV_ok (a b : zV) (h : z_eqV a b = true) : a = b := by
  obtain ⟨a1, a2, a3⟩ := a
  obtain ⟨b1, b2, b3⟩ := b
  have h1 : a1 = b1 := z_beq (z_and h).1
  have h2 : a2 = b2 := z_beq (z_and (z_and h).2).1
  have h3 : a3 = b3 := z_ieq_ok (z_and (z_and h).2).2
  rw [h1, h2, h3]
def z_eqN (a b : zI) : Bool := z_ieq a.1 b.1 && z_ieq a.2 b.2
theorem z_eqN_ok (a b : zI) (h : z_eqN a b = true) : a = b := by
  obtain ⟨a1, a2⟩ := a
  obtain ⟨b1, b2⟩ := b
  have h1 : a1 = b1 := z_ieq_ok (z_and h).1
  have h2 : a2 = b2 := z_ieq_ok (z_and h).2
  rw [h1, h2]
def z_eqP (a b : Nat × zV) : Bool := Nat.beq a.1 b.1 && z_eqV a.2 b.2
theorem z_eqP_ok (a b : Nat × zV) (h : z_eqP a b = true) : a = b := by
  obtain ⟨a1, a2⟩ := a
  obtain ⟨b1, b2⟩ := b
  have h1 : a1 = b1 := z_beq (z_and h).1
  have h2 : a2 = b2 := z_eqV_ok _ _ (z_and h).2
  rw [h1, h2]
def z_eqC (a b : zC) : Bool := match a, b with
  | .inl (c, f), .inl (d, g) => Nat.beq c d && z_eqL z_eqV f g
  | .inr (.inl (t, n, l, h)), .inr (.inl (t', n', l', h')) => Nat.beq t t' && (Nat.beq n n' && (z_ieq l l' && z_ieq h h'))
  | .inr (.inr (t, f)), .inr (.inr (d, g)) => Nat.beq t d && z_eqL z_eqV f g
  | _, _ => false
theorem z_eqC_ok (a b : zC) (h : z_eqC a b = true) : a = b := by
  unfold z_eqC at h
  split at h
  · rw [z_beq (z_and h).1, z_eqL_ok z_eqV_ok (z_and h).2]
  · rw [z_beq (z_and h).1, z_beq (z_and (z_and h).2).1, z_ieq_ok (z_and (z_and (z_and h).2).2).1, z_ieq_ok (z_and (z_and (z_and h).2).2).2]
  · rw [z_beq (z_and h).1, z_eqL_ok z_eqV_ok (z_and h).2]
  · cases h
def z_eqS (a b : Nat × zS) : Bool := Nat.beq a.1 b.1 && (z_eqL z_eqN a.2.1 b.2.1 && (z_eqL z_eqP a.2.2.1 b.2.2.1 && (z_eqL z_eqV a.2.2.2.1 b.2.2.2.1 && (z_eqL z_eqC a.2.2.2.2.1 b.2.2.2.2.1 && (Nat.beq a.2.2.2.2.2.1 b.2.2.2.2.2.1 && Nat.beq a.2.2.2.2.2.2 b.2.2.2.2.2.2)))))
theorem z_eqS_ok (a b : Nat × zS) (h : z_eqS a b = true) : a = b := by
  obtain ⟨a1, a2, a3, a4, a5, a6, a7⟩ := a
  obtain ⟨b1, b2, b3, b4, b5, b6, b7⟩ := b
  obtain ⟨h1, h⟩ := z_and h
  obtain ⟨h2, h⟩ := z_and h
  obtain ⟨h3, h⟩ := z_and h
  obtain ⟨h4, h⟩ := z_and h
  obtain ⟨h5, h⟩ := z_and h
  obtain ⟨h6, h7⟩ := z_and h
  have e1 : a1 = b1 := z_beq h1
  have e2 : a2 = b2 := z_eqL_ok z_eqN_ok h2
  have e3 : a3 = b3 := z_eqL_ok z_eqP_ok h3
  have e4 : a4 = b4 := z_eqL_ok z_eqV_ok h4
  have e5 : a5 = b5 := z_eqL_ok z_eqC_ok h5
  have e6 : a6 = b6 := z_beq h6
  have e7 : a7 = b7 := z_beq h7
  rw [e1, e2, e3, e4, e5, e6, e7]
def z_eqO (a : Option (List (Nat × zS))) (b : List (Nat × zS)) : Bool := match a with
  | some l => z_eqL z_eqS l b
  | none => false
theorem z_eqO_ok {a : Option (List (Nat × zS))} {b : List (Nat × zS)} (h : z_eqO a b = true) : a = some b := by
  unfold z_eqO at h
  split at h
  · rw [z_eqL_ok z_eqS_ok h]
  · cases h
end
section
/-! ===== the methods, by program (wip/z/gen.py): of each the instructions that the runs meet ===== -/
def zYs : List MethodName := [yX6_init, yX3_init, yX0_init, yX5_init, yX2_init, yX1_init, yX4_init, yX7_init, yX6_feed, yX3_put, yX7_feed, yX7_four, yX6_end, yX7_end, yX7_in, yX6_green, yX3_read, yX0_clear, yX3_next, yX3_kindAt, yX0_copy, yX6_settle, yX5_tell, yX0_everybody, yX5_giveTo, yX5_countSongs, yX5_play, yX5_begin, yX7_green, yX7_clears, yX7_tells, yX7_begins, yX7_next, yX7_isByte, yX7_isGood, yX7_isOver, yX7_copyGreen, yX7_copyRow, yX6_fault, yX7_fault, yX6_villager, yX0_hasVillager, yX7_villager, yX7_isMan, yX7_folk, yX6_hands, yX7_hands, yX6_far, yX7_far, yX6_reach, yX7_reach, yX6_cover, yX0_isTold, yX7_cover, yX7_isGreen, yX6_covers, yX7_covers, yX6_has, yX0_hasMorning, yX7_has, yX7_isMorning, yX6_cold, yX7_cold, yX7_isThen, yX6_takes, yX7_takes, yX6_coldest, yX7_coldest, yX6_all, yX7_all, yX6_passes, yX0_hasMorningBehind, yX7_passes, yX7_isAhead, yX7_mornings, yX6_worn, yX7_worn, yX6_gets, yX7_gets, yX6_keeps, yX7_keeps, yX6_pump, yX7_pump, yX6_right, yX7_right, yX6_stops, yX7_stops, yX6_round, yX7_round, yX6_suffers, yX7_suffers, yX6_sum, yX7_sum, yX6_worst, yX7_worst, yX6_freezes, yX7_freezes, yX6_blue, yX7_blue, yX6_alike, yX7_alike, yX6_colder, yX7_colder, yX6_near, yX7_near, yX6_warmest, yX7_warmest, yX6_frost, yX7_frost, yX6_jumps, yX7_jumps, yX6_longest, yX7_longest, yX6_fair, yX7_fair, yX6_rises, yX7_rises, yX6_waits, yX7_waits, yX6_returns, yX7_returns, yX6_lies, yX7_lies, yX6_gains, yX7_gains, yX6_liars, yX7_liars, yX6_start, yX7_start, yX6_join, yX7_join, yX6_plan, yX6_canPlan, yX7_plan, yX7_isPlan, yX6_planned, yX7_planned, yX6_plans, yX7_plans, yX6_colds, yX6_guessCold, yX7_colds, yX7_whyNot, yX7_isSlot, yX6_low, yX7_low, yX6_high, yX7_high, yX6_ask, yX7_ask, yX6_leaves, yX7_leaves, yX6_laws, yX7_laws, yX6_by, yX7_by, yX6_law, yX7_law, yX6_worth, yX7_worth, yX6_share, yX7_share, yX6_rests, yX6_areTwo, yX7_rests, yX7_areTwo, yX6_wins, yX7_wins, yX6_chance, yX7_chance, yX6_mean, yX6_canChance, yX7_mean, yX7_isSoon, yX6_gives, yX7_gives, yX6_sings, yX7_sings, yX6_undo, yX7_undo, yX6_anew, yX7_anew, yX6_drawn, yX7_drawn, yX6_luck, yX7_luck, yX7_isSeed, yX6_rate, yX7_rate, yX6_count, yX6_slotsWithRow, yX7_count, yX6_image, yX7_image, yX6_back, yX7_back, yX6_row, yX6_isSlot, yX4_renew, yX7_row, yX6_write, yX7_write, yX6_paste, yX7_paste]
def zY (mi : Nat) : MethodName := zYs.getD mi ⟨"", "", ""⟩
def zCs : List ByteArray := [cX6_init, cX3_init, cX0_init, cX5_init, cX2_init, cX1_init, cX4_init, cX7_init, cX6_feed, cX3_put, cX7_feed, cX7_four, cX6_end, cX7_end, cX7_in, cX6_green, cX3_read, cX0_clear, cX3_next, cX3_kindAt, cX0_copy, cX6_settle, cX5_tell, cX0_everybody, cX5_giveTo, cX5_countSongs, cX5_play, cX5_begin, cX7_green, cX7_clears, cX7_tells, cX7_begins, cX7_next, cX7_isByte, cX7_isGood, cX7_isOver, cX7_copyGreen, cX7_copyRow, cX6_fault, cX7_fault, cX6_villager, cX0_hasVillager, cX7_villager, cX7_isMan, cX7_folk, cX6_hands, cX7_hands, cX6_far, cX7_far, cX6_reach, cX7_reach, cX6_cover, cX0_isTold, cX7_cover, cX7_isGreen, cX6_covers, cX7_covers, cX6_has, cX0_hasMorning, cX7_has, cX7_isMorning, cX6_cold, cX7_cold, cX7_isThen, cX6_takes, cX7_takes, cX6_coldest, cX7_coldest, cX6_all, cX7_all, cX6_passes, cX0_hasMorningBehind, cX7_passes, cX7_isAhead, cX7_mornings, cX6_worn, cX7_worn, cX6_gets, cX7_gets, cX6_keeps, cX7_keeps, cX6_pump, cX7_pump, cX6_right, cX7_right, cX6_stops, cX7_stops, cX6_round, cX7_round, cX6_suffers, cX7_suffers, cX6_sum, cX7_sum, cX6_worst, cX7_worst, cX6_freezes, cX7_freezes, cX6_blue, cX7_blue, cX6_alike, cX7_alike, cX6_colder, cX7_colder, cX6_near, cX7_near, cX6_warmest, cX7_warmest, cX6_frost, cX7_frost, cX6_jumps, cX7_jumps, cX6_longest, cX7_longest, cX6_fair, cX7_fair, cX6_rises, cX7_rises, cX6_waits, cX7_waits, cX6_returns, cX7_returns, cX6_lies, cX7_lies, cX6_gains, cX7_gains, cX6_liars, cX7_liars, cX6_start, cX7_start, cX6_join, cX7_join, cX6_plan, cX6_canPlan, cX7_plan, cX7_isPlan, cX6_planned, cX7_planned, cX6_plans, cX7_plans, cX6_colds, cX6_guessCold, cX7_colds, cX7_whyNot, cX7_isSlot, cX6_low, cX7_low, cX6_high, cX7_high, cX6_ask, cX7_ask, cX6_leaves, cX7_leaves, cX6_laws, cX7_laws, cX6_by, cX7_by, cX6_law, cX7_law, cX6_worth, cX7_worth, cX6_share, cX7_share, cX6_rests, cX6_areTwo, cX7_rests, cX7_areTwo, cX6_wins, cX7_wins, cX6_chance, cX7_chance, cX6_mean, cX6_canChance, cX7_mean, cX7_isSoon, cX6_gives, cX7_gives, cX6_sings, cX7_sings, cX6_undo, cX7_undo, cX6_anew, cX7_anew, cX6_drawn, cX7_drawn, cX6_luck, cX7_luck, cX7_isSeed, cX6_rate, cX7_rate, cX6_count, cX6_slotsWithRow, cX7_count, cX6_image, cX7_image, cX6_back, cX7_back, cX6_row, cX6_isSlot, cX4_renew, cX7_row, cX6_write, cX7_write, cX6_paste, cX7_paste]
def zCC (mi : Nat) : ByteArray := zCs.getD mi ByteArray.empty
def zRs : List Nat := [3, 3, 3, 3, 3, 3, 3, 3, 0, 3, 0, 3, 0, 0, 1, 0, 1, 3, 3, 0, 3, 3, 3, 0, 3, 3, 3, 3, 0, 3, 3, 3, 3, 1, 1, 3, 3, 3, 0, 0, 0, 1, 0, 1, 0, 0, 0, 0, 0, 0, 0, 0, 1, 0, 1, 0, 0, 0, 1, 0, 1, 0, 0, 1, 0, 0, 0, 0, 0, 0, 0, 1, 0, 1, 0, 0, 0, 0, 0, 0, 0, 0, 0, 0, 0, 0, 0, 0, 0, 0, 0, 0, 0, 0, 0, 0, 0, 0, 0, 0, 0, 0, 0, 0, 0, 0, 0, 0, 0, 0, 0, 0, 0, 0, 0, 0, 0, 0, 0, 0, 0, 0, 0, 0, 0, 0, 0, 0, 0, 0, 0, 0, 1, 0, 1, 0, 0, 0, 0, 0, 0, 0, 0, 1, 0, 0, 0, 0, 0, 0, 0, 0, 0, 0, 0, 0, 0, 0, 0, 0, 0, 0, 0, 1, 0, 1, 0, 0, 0, 0, 2, 1, 2, 1, 0, 0, 0, 0, 0, 0, 0, 0, 0, 0, 0, 0, 1, 0, 0, 0, 0, 0, 0, 0, 0, 0, 0, 1, 3, 0, 0, 0, 0, 0]
def zRT (mi : Nat) : Option FieldType := z_rtt (zRs.getD mi 9)
def zVs : List Nat := [2, 2, 2, 2, 2, 2, 2, 2, 0, 0, 0, 0, 0, 0, 1, 0, 0, 0, 0, 0, 0, 0, 0, 0, 0, 0, 0, 0, 0, 0, 0, 0, 0, 0, 0, 0, 0, 1, 0, 0, 0, 0, 0, 0, 0, 0, 0, 0, 0, 0, 0, 0, 0, 0, 0, 0, 0, 0, 0, 0, 0, 0, 0, 0, 0, 0, 0, 0, 0, 0, 0, 0, 0, 0, 0, 0, 0, 0, 0, 0, 0, 0, 0, 0, 0, 0, 0, 0, 0, 0, 0, 0, 0, 0, 0, 0, 0, 0, 0, 0, 0, 0, 0, 0, 0, 0, 0, 0, 0, 0, 0, 0, 0, 0, 0, 0, 0, 0, 0, 0, 0, 0, 0, 0, 0, 0, 0, 0, 0, 0, 0, 0, 0, 0, 0, 0, 0, 0, 0, 0, 0, 0, 0, 1, 0, 0, 0, 0, 0, 0, 0, 0, 0, 0, 0, 0, 0, 0, 0, 0, 0, 0, 0, 0, 0, 0, 0, 0, 0, 0, 0, 0, 0, 0, 0, 0, 0, 0, 0, 0, 0, 0, 0, 0, 0, 0, 1, 0, 0, 0, 0, 0, 0, 0, 0, 0, 0, 1, 0, 0, 0, 0, 0, 0]
def zVK (mi : Nat) : Nat := zVs.getD mi 9
def zINI (mi : Nat) : Bool := Nat.beq (zVK mi) 2
def zHN : String := "WaistcoatGreen"
def zTY (ci : Nat) : Nat → FieldType := match ci with
  | 0 => tyX0
  | 1 => tyX1
  | 2 => tyX2
  | 3 => tyX3
  | 4 => tyX4
  | 5 => tyX5
  | 6 => tyX6
  | _ => tyX7
def zDF : List (List Nat) := [[0, 0, 0, 0, 0, 0, 0, 0, 0, 0, 0, 3, 3, 3, 3, 3, 3, 3], [3, 0, 0, 0], [3, 3, 0, 0, 0], [3, 0, 0, 0, 0, 0, 0, 0], [3, 0, 0, 0], [3, 0, 0, 0, 3, 3, 3, 3, 3, 3, 3, 3], [3, 3, 3, 3, 3, 3, 3, 3, 3, 3, 3], [0, 3, 3, 3, 3, 3, 0, 0, 0, 0, 0, 1, 0, 0, 0, 0, 3, 3, 3, 3, 3, 3, 3, 0, 0, 0, 0, 0, 3, 3, 3, 3, 3, 3, 0, 0, 0, 0, 3, 3, 3, 0, 0, 0, 0, 0, 3]]
def zTC : List Nat := [4, 0]
def zT0 : List (List zE) := [[(0, .aload_n 0, 1, 0, 0, 0, 0), (1, .invokespecial 3, 3, 0, 4, 126, 0), (4, .aload_n 0, 1, 0, 0, 0, 0), (5, .new 9, 3, 3, 130, 129, 107), (8, .dup, 1, 0, 0, 0, 0), (9, .invokespecial 11, 3, 1, 3, 131, 0), (12, .putfield 12, 3, 6, 0, 394, 3), (15, .aload_n 0, 1, 0, 0, 0, 0), (16, .new 16, 3, 0, 165, 164, 108), (19, .dup, 1, 0, 0, 0, 0), (20, .invokespecial 18, 3, 2, 3, 166, 0), (23, .putfield 19, 3, 6, 1, 395, 3), (26, .aload_n 0, 1, 0, 0, 0, 0), (27, .new 16, 3, 0, 165, 164, 108), (30, .dup, 1, 0, 0, 0, 0), (31, .invokespecial 18, 3, 2, 3, 166, 0)],
  [(34, .putfield 23, 3, 6, 2, 396, 3), (37, .aload_n 0, 1, 0, 0, 0, 0), (38, .new 26, 3, 5, 265, 264, 109), (41, .dup, 1, 0, 0, 0, 0), (42, .aload_n 0, 1, 0, 0, 0, 0), (43, .getfield 19, 3, 6, 1, 395, 0), (46, .invokespecial 28, 3, 3, 2, 266, 0), (49, .putfield 31, 3, 6, 3, 397, 3), (52, .aload_n 0, 1, 0, 0, 0, 0), (53, .new 26, 3, 5, 265, 264, 109), (56, .dup, 1, 0, 0, 0, 0), (57, .aload_n 0, 1, 0, 0, 0, 0), (58, .getfield 19, 3, 6, 1, 395, 0), (61, .invokespecial 28, 3, 3, 2, 266, 0)],
  [(64, .putfield 35, 3, 6, 4, 398, 3), (67, .aload_n 0, 1, 0, 0, 0, 0), (68, .new 38, 3, 2, 319, 318, 110), (71, .dup, 1, 0, 0, 0, 0), (72, .aload_n 0, 1, 0, 0, 0, 0), (73, .getfield 35, 3, 6, 4, 398, 0), (76, .invokespecial 40, 3, 4, 2, 320, 0), (79, .putfield 43, 3, 6, 5, 399, 3), (82, .aload_n 0, 1, 0, 0, 0, 0), (83, .new 47, 3, 1, 344, 343, 111), (86, .dup, 1, 0, 0, 0, 0), (87, .invokespecial 49, 3, 5, 3, 345, 0), (90, .putfield 50, 3, 6, 6, 400, 3), (93, .aload_n 0, 1, 0, 0, 0, 0), (94, .iconst 4, 1, 0, 0, 0, 0), (95, .anewarray 54, 3, 4, 366, 365, 0)],
  [(98, .putfield 56, 3, 6, 7, 401, 3), (101, .aload_n 0, 1, 0, 0, 0, 0), (102, .iconst 3, 1, 0, 0, 0, 0), (103, .anewarray 16, 3, 5, 367, 164, 0), (106, .putfield 60, 3, 6, 8, 402, 3), (109, .aload_n 0, 1, 0, 0, 0, 0), (110, .iconst 3, 1, 0, 0, 0, 0), (111, .newarray .boolean, 2, 1, 0, 392, 0), (113, .putfield 64, 3, 6, 9, 403, 3), (116, .aload_n 0, 1, 0, 0, 0, 0), (117, .sipush 128, 3, 0, 0, 0, 0), (120, .newarray .int, 2, 0, 0, 263, 0), (122, .putfield 68, 3, 6, 10, 404, 3), (125, .iconst 0, 1, 0, 0, 0, 0), (126, .istore_n 1, 1, 0, 0, 0, 0), (127, .iload_n 1, 1, 0, 0, 0, 0)],
  [(128, .iconst 4, 1, 0, 0, 0, 0), (129, .if_icmp .ge 22, 3, 0, 0, 0, 0), (132, .aload_n 0, 1, 0, 0, 0, 0), (133, .getfield 56, 3, 6, 7, 401, 0), (136, .iload_n 1, 1, 0, 0, 0, 0), (137, .new 54, 3, 4, 368, 365, 112), (140, .dup, 1, 0, 0, 0, 0), (141, .invokespecial 72, 3, 6, 3, 369, 0), (144, .aastore, 1, 0, 0, 0, 0), (145, .iinc 1 1, 3, 0, 0, 0, 0), (148, .goto (-21), 3, 0, 0, 0, 0), (151, .iconst 0, 1, 0, 0, 0, 0), (152, .istore_n 1, 1, 0, 0, 0, 0), (153, .iload_n 1, 1, 0, 0, 0, 0), (154, .iconst 3, 1, 0, 0, 0, 0), (155, .if_icmp .ge 22, 3, 0, 0, 0, 0), (158, .aload_n 0, 1, 0, 0, 0, 0), (159, .getfield 60, 3, 6, 8, 402, 0)],
  [(162, .iload_n 1, 1, 0, 0, 0, 0), (163, .new 16, 3, 0, 165, 164, 108), (166, .dup, 1, 0, 0, 0, 0), (167, .invokespecial 18, 3, 2, 3, 166, 0), (170, .aastore, 1, 0, 0, 0, 0), (171, .iinc 1 1, 3, 0, 0, 0, 0), (174, .goto (-21), 3, 0, 0, 0, 0), (177, .return_, 1, 0, 0, 0, 0)]]
def zT1 : List (List zE) := [[(0, .aload_n 0, 1, 0, 0, 0, 0), (1, .invokespecial 3, 3, 0, 4, 134, 0), (4, .aload_n 0, 1, 0, 0, 0, 0), (5, .sipush 700, 3, 0, 0, 0, 0), (8, .newarray .byte, 2, 2, 0, 163, 0), (10, .putfield 9, 3, 3, 0, 135, 3), (13, .aload_n 0, 1, 0, 0, 0, 0), (14, .iconst (-1), 1, 0, 0, 0, 0), (15, .putfield 15, 3, 3, 3, 140, 0), (18, .return_, 1, 0, 0, 0, 0)]]
def zT2 : List (List zE) := [[(0, .aload_n 0, 1, 0, 0, 0, 0), (1, .invokespecial 3, 3, 0, 4, 169, 0), (4, .aload_n 0, 1, 0, 0, 0, 0), (5, .iconst (-1), 1, 0, 0, 0, 0), (6, .putfield 9, 3, 0, 9, 204, 0), (9, .aload_n 0, 1, 0, 0, 0, 0), (10, .bipush 7, 2, 0, 0, 0, 0), (12, .newarray .int, 2, 0, 0, 263, 0), (14, .putfield 15, 3, 0, 11, 210, 3), (17, .aload_n 0, 1, 0, 0, 0, 0), (18, .bipush 7, 2, 0, 0, 0, 0), (20, .newarray .int, 2, 0, 0, 263, 0), (22, .putfield 19, 3, 0, 12, 213, 3), (25, .aload_n 0, 1, 0, 0, 0, 0), (26, .bipush 7, 2, 0, 0, 0, 0), (28, .newarray .int, 2, 0, 0, 263, 0), (30, .putfield 22, 3, 0, 13, 216, 3)],
  [(33, .aload_n 0, 1, 0, 0, 0, 0), (34, .bipush 15, 2, 0, 0, 0, 0), (36, .newarray .int, 2, 0, 0, 263, 0), (38, .putfield 25, 3, 0, 14, 219, 3), (41, .aload_n 0, 1, 0, 0, 0, 0), (42, .bipush 30, 2, 0, 0, 0, 0), (44, .newarray .int, 2, 0, 0, 263, 0), (46, .putfield 28, 3, 0, 15, 220, 3), (49, .aload_n 0, 1, 0, 0, 0, 0), (50, .bipush 30, 2, 0, 0, 0, 0), (52, .newarray .int, 2, 0, 0, 263, 0), (54, .putfield 31, 3, 0, 16, 222, 3), (57, .aload_n 0, 1, 0, 0, 0, 0), (58, .bipush 30, 2, 0, 0, 0, 0), (60, .newarray .int, 2, 0, 0, 263, 0), (62, .putfield 34, 3, 0, 17, 224, 3)],
  [(65, .return_, 1, 0, 0, 0, 0)]]
def zT3 : List (List zE) := [[(0, .aload_n 0, 1, 0, 0, 0, 0), (1, .invokespecial 3, 3, 0, 4, 269, 0), (4, .aload_n 0, 1, 0, 0, 0, 0), (5, .bipush 7, 2, 0, 0, 0, 0), (7, .newarray .int, 2, 0, 0, 263, 0), (9, .putfield 9, 3, 5, 4, 278, 3), (12, .aload_n 0, 1, 0, 0, 0, 0), (13, .bipush 7, 2, 0, 0, 0, 0), (15, .newarray .int, 2, 0, 0, 263, 0), (17, .putfield 15, 3, 5, 5, 280, 3), (20, .aload_n 0, 1, 0, 0, 0, 0), (21, .bipush 7, 2, 0, 0, 0, 0), (23, .newarray .int, 2, 0, 0, 263, 0), (25, .putfield 18, 3, 5, 6, 282, 3), (28, .aload_n 0, 1, 0, 0, 0, 0), (29, .bipush 15, 2, 0, 0, 0, 0), (31, .newarray .int, 2, 0, 0, 263, 0)],
  [(33, .putfield 21, 3, 5, 7, 284, 3), (36, .aload_n 0, 1, 0, 0, 0, 0), (37, .bipush 105, 2, 0, 0, 0, 0), (39, .newarray .int, 2, 0, 0, 263, 0), (41, .putfield 24, 3, 5, 8, 285, 3), (44, .aload_n 0, 1, 0, 0, 0, 0), (45, .bipush 15, 2, 0, 0, 0, 0), (47, .newarray .int, 2, 0, 0, 263, 0), (49, .putfield 27, 3, 5, 9, 286, 3), (52, .aload_n 0, 1, 0, 0, 0, 0), (53, .bipush 15, 2, 0, 0, 0, 0), (55, .newarray .int, 2, 0, 0, 263, 0), (57, .putfield 30, 3, 5, 10, 290, 3), (60, .aload_n 0, 1, 0, 0, 0, 0), (61, .bipush 105, 2, 0, 0, 0, 0), (63, .newarray .int, 2, 0, 0, 263, 0)],
  [(65, .putfield 33, 3, 5, 11, 292, 3), (68, .aload_n 0, 1, 0, 0, 0, 0), (69, .aload_n 1, 1, 0, 0, 0, 0), (70, .putfield 36, 3, 5, 0, 270, 3), (73, .return_, 1, 0, 0, 0, 0)]]
def zT4 : List (List zE) := [[(0, .aload_n 0, 1, 0, 0, 0, 0), (1, .invokespecial 3, 3, 0, 4, 323, 0), (4, .aload_n 0, 1, 0, 0, 0, 0), (5, .iconst 5, 1, 0, 0, 0, 0), (6, .newarray .int, 2, 0, 0, 263, 0), (8, .putfield 9, 3, 2, 1, 325, 3), (11, .aload_n 0, 1, 0, 0, 0, 0), (12, .aload_n 1, 1, 0, 0, 0, 0), (13, .putfield 15, 3, 2, 0, 324, 3), (16, .return_, 1, 0, 0, 0, 0)]]
def zT5 : List (List zE) := [[(0, .aload_n 0, 1, 0, 0, 0, 0), (1, .invokespecial 3, 3, 0, 4, 348, 0), (4, .aload_n 0, 1, 0, 0, 0, 0), (5, .bipush 120, 2, 0, 0, 0, 0), (7, .newarray .int, 2, 0, 0, 263, 0), (9, .putfield 9, 3, 1, 0, 349, 3), (12, .return_, 1, 0, 0, 0, 0)]]
def zT6 : List (List zE) := [[(0, .aload_n 0, 1, 0, 0, 0, 0), (1, .invokespecial 3, 3, 0, 4, 372, 0), (4, .aload_n 0, 1, 0, 0, 0, 0), (5, .bipush 60, 2, 0, 0, 0, 0), (7, .newarray .long, 2, 3, 0, 393, 0), (9, .putfield 9, 3, 4, 0, 373, 3), (12, .return_, 1, 0, 0, 0, 0)]]
def zT7 : List (List zE) := [[(0, .aload_n 0, 1, 0, 0, 0, 0), (1, .invokespecial 1, 3, 0, 4, 1124, 0), (4, .aload_n 0, 1, 0, 0, 0, 0), (5, .iconst 4, 1, 0, 0, 0, 0), (6, .newarray .int, 2, 0, 0, 263, 0), (8, .putfield 7, 3, 7, 1, 1126, 3), (11, .aload_n 0, 1, 0, 0, 0, 0), (12, .iconst 4, 1, 0, 0, 0, 0), (13, .newarray .int, 2, 0, 0, 263, 0), (15, .putfield 13, 3, 7, 2, 1127, 3), (18, .aload_n 0, 1, 0, 0, 0, 0), (19, .sipush 240, 3, 0, 0, 0, 0), (22, .newarray .long, 2, 3, 0, 393, 0), (24, .putfield 16, 3, 7, 3, 1128, 3), (27, .aload_n 0, 1, 0, 0, 0, 0), (28, .bipush 60, 2, 0, 0, 0, 0), (30, .newarray .long, 2, 3, 0, 393, 0)],
  [(32, .putfield 20, 3, 7, 4, 1129, 3), (35, .aload_n 0, 1, 0, 0, 0, 0), (36, .sipush 700, 3, 0, 0, 0, 0), (39, .newarray .byte, 2, 2, 0, 163, 0), (41, .putfield 23, 3, 7, 5, 1130, 3), (44, .aload_n 0, 1, 0, 0, 0, 0), (45, .iconst (-1), 1, 0, 0, 0, 0), (46, .putfield 27, 3, 7, 15, 1140, 0), (49, .aload_n 0, 1, 0, 0, 0, 0), (50, .iconst 5, 1, 0, 0, 0, 0), (51, .newarray .int, 2, 0, 0, 263, 0), (53, .putfield 31, 3, 7, 16, 1141, 3), (56, .aload_n 0, 1, 0, 0, 0, 0), (57, .bipush 50, 2, 0, 0, 0, 0), (59, .newarray .int, 2, 0, 0, 263, 0), (61, .putfield 34, 3, 7, 17, 1142, 3)],
  [(64, .aload_n 0, 1, 0, 0, 0, 0), (65, .bipush 70, 2, 0, 0, 0, 0), (67, .newarray .int, 2, 0, 0, 263, 0), (69, .putfield 37, 3, 7, 18, 1143, 3), (72, .aload_n 0, 1, 0, 0, 0, 0), (73, .bipush 120, 2, 0, 0, 0, 0), (75, .newarray .int, 2, 0, 0, 263, 0), (77, .putfield 40, 3, 7, 19, 1144, 3), (80, .aload_n 0, 1, 0, 0, 0, 0), (81, .bipush 80, 2, 0, 0, 0, 0), (83, .newarray .int, 2, 0, 0, 263, 0), (85, .putfield 43, 3, 7, 20, 1145, 3), (88, .aload_n 0, 1, 0, 0, 0, 0), (89, .sipush 450, 3, 0, 0, 0, 0), (92, .newarray .int, 2, 0, 0, 263, 0), (94, .putfield 46, 3, 7, 21, 1146, 3)],
  [(97, .aload_n 0, 1, 0, 0, 0, 0), (98, .iconst 3, 1, 0, 0, 0, 0), (99, .newarray .boolean, 2, 1, 0, 392, 0), (101, .putfield 49, 3, 7, 22, 1147, 3), (104, .aload_n 0, 1, 0, 0, 0, 0), (105, .bipush 7, 2, 0, 0, 0, 0), (107, .newarray .int, 2, 0, 0, 263, 0), (109, .putfield 53, 3, 7, 28, 1153, 3), (112, .aload_n 0, 1, 0, 0, 0, 0), (113, .bipush 7, 2, 0, 0, 0, 0), (115, .newarray .int, 2, 0, 0, 263, 0), (117, .putfield 56, 3, 7, 29, 1154, 3), (120, .aload_n 0, 1, 0, 0, 0, 0), (121, .bipush 7, 2, 0, 0, 0, 0), (123, .newarray .int, 2, 0, 0, 263, 0), (125, .putfield 59, 3, 7, 30, 1155, 3)],
  [(128, .aload_n 0, 1, 0, 0, 0, 0), (129, .bipush 15, 2, 0, 0, 0, 0), (131, .newarray .int, 2, 0, 0, 263, 0), (133, .putfield 62, 3, 7, 31, 1156, 3), (136, .aload_n 0, 1, 0, 0, 0, 0), (137, .bipush 15, 2, 0, 0, 0, 0), (139, .newarray .int, 2, 0, 0, 263, 0), (141, .putfield 65, 3, 7, 32, 1157, 3), (144, .aload_n 0, 1, 0, 0, 0, 0), (145, .bipush 105, 2, 0, 0, 0, 0), (147, .newarray .int, 2, 0, 0, 263, 0), (149, .putfield 68, 3, 7, 33, 1158, 3), (152, .aload_n 0, 1, 0, 0, 0, 0), (153, .iconst 5, 1, 0, 0, 0, 0), (154, .newarray .int, 2, 0, 0, 263, 0), (156, .putfield 71, 3, 7, 38, 1163, 3), (159, .aload_n 0, 1, 0, 0, 0, 0)],
  [(160, .iconst 5, 1, 0, 0, 0, 0), (161, .newarray .int, 2, 0, 0, 263, 0), (163, .putfield 74, 3, 7, 39, 1164, 3), (166, .aload_n 0, 1, 0, 0, 0, 0), (167, .bipush 35, 2, 0, 0, 0, 0), (169, .newarray .int, 2, 0, 0, 263, 0), (171, .putfield 77, 3, 7, 40, 1165, 3), (174, .aload_n 0, 1, 0, 0, 0, 0), (175, .bipush 120, 2, 0, 0, 0, 0), (177, .newarray .int, 2, 0, 0, 263, 0), (179, .putfield 80, 3, 7, 46, 1171, 3), (182, .iconst 0, 1, 0, 0, 0, 0), (183, .istore_n 1, 1, 0, 0, 0, 0), (184, .iload_n 1, 1, 0, 0, 0, 0), (185, .iconst 4, 1, 0, 0, 0, 0), (186, .if_icmp .ge 16, 3, 0, 0, 0, 0), (189, .aload_n 0, 1, 0, 0, 0, 0), (190, .getfield 7, 3, 7, 1, 1126, 0)],
  [(193, .iload_n 1, 1, 0, 0, 0, 0), (194, .iconst (-1), 1, 0, 0, 0, 0), (195, .iastore, 1, 0, 0, 0, 0), (196, .iinc 1 1, 3, 0, 0, 0, 0), (199, .goto (-15), 3, 0, 0, 0, 0), (202, .return_, 1, 0, 0, 0, 0)]]
def zT8 : List (List zE) := [[(0, .aload_n 0, 1, 0, 0, 0, 0), (1, .getfield 12, 3, 6, 0, 394, 0), (4, .getfield 73, 3, 3, 1, 136, 0), (7, .bipush 20, 2, 0, 0, 0, 0), (9, .iadd, 1, 0, 0, 0, 0), (10, .sipush 700, 3, 0, 0, 0, 0), (13, .if_icmp .le 5, 3, 0, 0, 0, 0), (18, .aload_n 0, 1, 0, 0, 0, 0), (19, .getfield 12, 3, 6, 0, 394, 0), (22, .iload_n 1, 1, 0, 0, 0, 0), (23, .invokevirtual 77, 3, 9, 0, 432, 0), (26, .aload_n 0, 1, 0, 0, 0, 0), (27, .getfield 12, 3, 6, 0, 394, 0), (30, .iload_n 2, 1, 0, 0, 0, 0), (31, .invokevirtual 77, 3, 9, 0, 432, 0)],
  [(34, .aload_n 0, 1, 0, 0, 0, 0), (35, .getfield 12, 3, 6, 0, 394, 0), (38, .iload_n 3, 1, 0, 0, 0, 0), (39, .invokevirtual 77, 3, 9, 0, 432, 0), (42, .aload_n 0, 1, 0, 0, 0, 0), (43, .getfield 12, 3, 6, 0, 394, 0), (46, .iload 4, 2, 0, 0, 0, 0), (48, .invokevirtual 77, 3, 9, 0, 432, 0), (51, .aload_n 0, 1, 0, 0, 0, 0), (52, .getfield 12, 3, 6, 0, 394, 0), (55, .iload 5, 2, 0, 0, 0, 0), (57, .invokevirtual 77, 3, 9, 0, 432, 0), (60, .aload_n 0, 1, 0, 0, 0, 0), (61, .getfield 12, 3, 6, 0, 394, 0)],
  [(64, .getfield 73, 3, 3, 1, 136, 0), (67, .ireturn, 1, 0, 0, 0, 0)]]
def zT9 : List (List zE) := [[(0, .aload_n 0, 1, 0, 0, 0, 0), (1, .getfield 9, 3, 3, 0, 135, 0), (4, .aload_n 0, 1, 0, 0, 0, 0), (5, .getfield 19, 3, 3, 1, 137, 0), (8, .iload_n 1, 1, 0, 0, 0, 0), (9, .bipush 24, 2, 0, 0, 0, 0), (11, .ishr, 1, 0, 0, 0, 0), (12, .i2b, 1, 0, 0, 0, 0), (13, .bastore, 1, 0, 0, 0, 0), (14, .aload_n 0, 1, 0, 0, 0, 0), (15, .getfield 9, 3, 3, 0, 135, 0), (18, .aload_n 0, 1, 0, 0, 0, 0), (19, .getfield 19, 3, 3, 1, 137, 0), (22, .iconst 1, 1, 0, 0, 0, 0), (23, .iadd, 1, 0, 0, 0, 0), (24, .iload_n 1, 1, 0, 0, 0, 0), (25, .bipush 16, 2, 0, 0, 0, 0), (27, .ishr, 1, 0, 0, 0, 0), (28, .i2b, 1, 0, 0, 0, 0), (29, .bastore, 1, 0, 0, 0, 0), (30, .aload_n 0, 1, 0, 0, 0, 0), (31, .getfield 9, 3, 3, 0, 135, 0)],
  [(34, .aload_n 0, 1, 0, 0, 0, 0), (35, .getfield 19, 3, 3, 1, 137, 0), (38, .iconst 2, 1, 0, 0, 0, 0), (39, .iadd, 1, 0, 0, 0, 0), (40, .iload_n 1, 1, 0, 0, 0, 0), (41, .bipush 8, 2, 0, 0, 0, 0), (43, .ishr, 1, 0, 0, 0, 0), (44, .i2b, 1, 0, 0, 0, 0), (45, .bastore, 1, 0, 0, 0, 0), (46, .aload_n 0, 1, 0, 0, 0, 0), (47, .getfield 9, 3, 3, 0, 135, 0), (50, .aload_n 0, 1, 0, 0, 0, 0), (51, .getfield 19, 3, 3, 1, 137, 0), (54, .iconst 3, 1, 0, 0, 0, 0), (55, .iadd, 1, 0, 0, 0, 0), (56, .iload_n 1, 1, 0, 0, 0, 0), (57, .i2b, 1, 0, 0, 0, 0), (58, .bastore, 1, 0, 0, 0, 0), (59, .aload_n 0, 1, 0, 0, 0, 0), (60, .dup, 1, 0, 0, 0, 0), (61, .getfield 19, 3, 3, 1, 137, 0)],
  [(64, .iconst 4, 1, 0, 0, 0, 0), (65, .iadd, 1, 0, 0, 0, 0), (66, .putfield 19, 3, 3, 1, 137, 0), (69, .return_, 1, 0, 0, 0, 0)]]
def zT10 : List (List zE) := [[(0, .aload_n 0, 1, 0, 0, 0, 0), (1, .iconst 0, 1, 0, 0, 0, 0), (2, .putfield 83, 3, 7, 0, 1125, 0), (5, .aload_n 0, 1, 0, 0, 0, 0), (6, .getfield 100, 3, 7, 6, 1131, 0), (9, .bipush 20, 2, 0, 0, 0, 0), (11, .iadd, 1, 0, 0, 0, 0), (12, .sipush 700, 3, 0, 0, 0, 0), (15, .if_icmp .le 5, 3, 0, 0, 0, 0), (20, .aload_n 0, 1, 0, 0, 0, 0), (21, .iload_n 1, 1, 0, 0, 0, 0), (22, .invokevirtual 103, 3, 11, 0, 1293, 0), (25, .aload_n 0, 1, 0, 0, 0, 0), (26, .iload_n 2, 1, 0, 0, 0, 0), (27, .invokevirtual 103, 3, 11, 0, 1293, 0), (30, .aload_n 0, 1, 0, 0, 0, 0), (31, .iload_n 3, 1, 0, 0, 0, 0)],
  [(32, .invokevirtual 103, 3, 11, 0, 1293, 0), (35, .aload_n 0, 1, 0, 0, 0, 0), (36, .iload 4, 2, 0, 0, 0, 0), (38, .invokevirtual 103, 3, 11, 0, 1293, 0), (41, .aload_n 0, 1, 0, 0, 0, 0), (42, .iload 5, 2, 0, 0, 0, 0), (44, .invokevirtual 103, 3, 11, 0, 1293, 0), (47, .aload_n 0, 1, 0, 0, 0, 0), (48, .getfield 100, 3, 7, 6, 1131, 0), (51, .ireturn, 1, 0, 0, 0, 0)]]
def zT11 : List (List zE) := [[(0, .bipush 24, 2, 0, 0, 0, 0), (2, .istore_n 2, 1, 0, 0, 0, 0), (3, .iload_n 2, 1, 0, 0, 0, 0), (4, .ifCond .lt 32, 3, 0, 0, 0, 0), (7, .aload_n 0, 1, 0, 0, 0, 0), (8, .getfield 23, 3, 7, 5, 1130, 0), (11, .aload_n 0, 1, 0, 0, 0, 0), (12, .getfield 100, 3, 7, 6, 1131, 0), (15, .iload_n 1, 1, 0, 0, 0, 0), (16, .iload_n 2, 1, 0, 0, 0, 0), (17, .ishr, 1, 0, 0, 0, 0), (18, .i2b, 1, 0, 0, 0, 0), (19, .bastore, 1, 0, 0, 0, 0), (20, .aload_n 0, 1, 0, 0, 0, 0), (21, .dup, 1, 0, 0, 0, 0), (22, .getfield 100, 3, 7, 6, 1131, 0), (25, .iconst 1, 1, 0, 0, 0, 0), (26, .iadd, 1, 0, 0, 0, 0), (27, .putfield 100, 3, 7, 6, 1131, 0), (30, .iinc 2 (-8), 3, 0, 0, 0, 0)],
  [(33, .goto (-30), 3, 0, 0, 0, 0), (36, .return_, 1, 0, 0, 0, 0)]]
def zT12 : List (List zE) := [[(0, .iload_n 1, 1, 0, 0, 0, 0), (1, .ifCond .lt 14, 3, 0, 0, 0, 0), (4, .iload_n 1, 1, 0, 0, 0, 0), (5, .aload_n 0, 1, 0, 0, 0, 0), (6, .getfield 12, 3, 6, 0, 394, 0), (9, .getfield 73, 3, 3, 1, 136, 0), (12, .if_icmp .le 5, 3, 0, 0, 0, 0), (15, .iconst (-1), 1, 0, 0, 0, 0), (16, .ireturn, 1, 0, 0, 0, 0), (17, .aload_n 0, 1, 0, 0, 0, 0), (18, .getfield 12, 3, 6, 0, 394, 0), (21, .iload_n 1, 1, 0, 0, 0, 0), (22, .putfield 73, 3, 3, 1, 136, 0), (25, .iload_n 1, 1, 0, 0, 0, 0), (26, .ireturn, 1, 0, 0, 0, 0)]]
def zT13 : List (List zE) := [[(0, .aload_n 0, 1, 0, 0, 0, 0), (1, .iconst 0, 1, 0, 0, 0, 0), (2, .putfield 83, 3, 7, 0, 1125, 0), (5, .iload_n 1, 1, 0, 0, 0, 0), (6, .i2l, 1, 0, 0, 0, 0), (7, .lconst 0, 1, 0, 0, 0, 0), (8, .aload_n 0, 1, 0, 0, 0, 0), (9, .getfield 100, 3, 7, 6, 1131, 0), (12, .i2l, 1, 0, 0, 0, 0), (13, .invokestatic 88, 3, 14, 1, 1275, 0), (16, .ifCond .ne 5, 3, 0, 0, 0, 0), (19, .iconst (-1), 1, 0, 0, 0, 0), (20, .ireturn, 1, 0, 0, 0, 0), (21, .aload_n 0, 1, 0, 0, 0, 0), (22, .iload_n 1, 1, 0, 0, 0, 0), (23, .putfield 100, 3, 7, 6, 1131, 0), (26, .iload_n 1, 1, 0, 0, 0, 0), (27, .ireturn, 1, 0, 0, 0, 0)]]
def zT14 : List (List zE) := [[(0, .lload_n 0, 1, 0, 0, 0, 0), (1, .lload_n 2, 1, 0, 0, 0, 0), (2, .lcmp, 1, 0, 0, 0, 0), (3, .ifCond .lt 14, 3, 0, 0, 0, 0), (6, .lload_n 0, 1, 0, 0, 0, 0), (7, .lload 4, 2, 0, 0, 0, 0), (9, .lcmp, 1, 0, 0, 0, 0), (10, .ifCond .gt 7, 3, 0, 0, 0, 0), (13, .iconst 1, 1, 0, 0, 0, 0), (14, .goto 4, 3, 0, 0, 0, 0), (17, .iconst 0, 1, 0, 0, 0, 0), (18, .ireturn, 1, 0, 0, 0, 0)]]
def zT15 : List (List zE) := [[(0, .aload_n 0, 1, 0, 0, 0, 0), (1, .getfield 12, 3, 6, 0, 394, 0), (4, .aload_n 0, 1, 0, 0, 0, 0), (5, .getfield 23, 3, 6, 2, 396, 0), (8, .invokevirtual 81, 3, 16, 0, 444, 0), (11, .ifCond .ne 6, 3, 0, 0, 0, 0), (17, .aload_n 0, 1, 0, 0, 0, 0), (18, .getfield 12, 3, 6, 0, 394, 0), (21, .iconst 0, 1, 0, 0, 0, 0), (22, .putfield 73, 3, 3, 1, 136, 0), (25, .aload_n 0, 1, 0, 0, 0, 0), (26, .getfield 19, 3, 6, 1, 395, 0), (29, .aload_n 0, 1, 0, 0, 0, 0), (30, .getfield 23, 3, 6, 2, 396, 0)],
  [(33, .invokevirtual 85, 3, 20, 0, 547, 0), (36, .aload_n 0, 1, 0, 0, 0, 0), (37, .invokevirtual 88, 3, 21, 0, 554, 0), (40, .aload_n 0, 1, 0, 0, 0, 0), (41, .getfield 19, 3, 6, 1, 395, 0), (44, .getfield 91, 3, 0, 0, 172, 0), (47, .ireturn, 1, 0, 0, 0, 0)]]
def zT16 : List (List zE) := [[(0, .aload_n 1, 1, 0, 0, 0, 0), (1, .invokevirtual 22, 3, 17, 0, 448, 0), (4, .aload_n 0, 1, 0, 0, 0, 0), (5, .iconst 0, 1, 0, 0, 0, 0), (6, .putfield 27, 3, 3, 2, 138, 0), (9, .aload_n 0, 1, 0, 0, 0, 0), (10, .iconst (-1), 1, 0, 0, 0, 0), (11, .putfield 15, 3, 3, 3, 140, 0), (14, .aload_n 0, 1, 0, 0, 0, 0), (15, .iconst 0, 1, 0, 0, 0, 0), (16, .putfield 30, 3, 3, 6, 144, 0), (19, .aload_n 0, 1, 0, 0, 0, 0), (20, .invokevirtual 33, 3, 18, 0, 452, 0), (23, .iconst 0, 1, 0, 0, 0, 0), (24, .istore_n 2, 1, 0, 0, 0, 0), (25, .iload_n 2, 1, 0, 0, 0, 0), (26, .aload_n 0, 1, 0, 0, 0, 0), (27, .getfield 19, 3, 3, 1, 137, 0), (30, .if_icmp .gt 99, 3, 0, 0, 0, 0)],
  [(33, .aload_n 0, 1, 0, 0, 0, 0), (34, .getfield 36, 3, 3, 4, 142, 0), (37, .ifCond .eq 92, 3, 0, 0, 0, 0)],
  [],
  [],
  [(129, .aload_n 0, 1, 0, 0, 0, 0), (130, .getfield 27, 3, 3, 2, 138, 0), (133, .ifCond .ne 7, 3, 0, 0, 0, 0), (136, .iconst 1, 1, 0, 0, 0, 0), (137, .goto 4, 3, 0, 0, 0, 0), (141, .ireturn, 1, 0, 0, 0, 0)]]
def zT17 : List (List zE) := [[(0, .aload_n 0, 1, 0, 0, 0, 0), (1, .iconst 0, 1, 0, 0, 0, 0), (2, .putfield 37, 3, 0, 0, 170, 0), (5, .aload_n 0, 1, 0, 0, 0, 0), (6, .iconst 0, 1, 0, 0, 0, 0), (7, .putfield 47, 3, 0, 1, 173, 0), (10, .aload_n 0, 1, 0, 0, 0, 0), (11, .iconst 0, 1, 0, 0, 0, 0), (12, .putfield 62, 3, 0, 2, 180, 0), (15, .aload_n 0, 1, 0, 0, 0, 0), (16, .iconst 0, 1, 0, 0, 0, 0), (17, .putfield 65, 3, 0, 3, 183, 0), (20, .aload_n 0, 1, 0, 0, 0, 0), (21, .iconst 0, 1, 0, 0, 0, 0), (22, .putfield 68, 3, 0, 4, 187, 0), (25, .aload_n 0, 1, 0, 0, 0, 0), (26, .iconst 0, 1, 0, 0, 0, 0), (27, .putfield 50, 3, 0, 5, 190, 0), (30, .aload_n 0, 1, 0, 0, 0, 0), (31, .iconst 0, 1, 0, 0, 0, 0)],
  [(32, .putfield 40, 3, 0, 6, 192, 0), (35, .aload_n 0, 1, 0, 0, 0, 0), (36, .iconst 0, 1, 0, 0, 0, 0), (37, .putfield 53, 3, 0, 7, 199, 0), (40, .aload_n 0, 1, 0, 0, 0, 0), (41, .iconst 0, 1, 0, 0, 0, 0), (42, .putfield 56, 3, 0, 8, 202, 0), (45, .aload_n 0, 1, 0, 0, 0, 0), (46, .iconst (-1), 1, 0, 0, 0, 0), (47, .putfield 9, 3, 0, 9, 204, 0), (50, .aload_n 0, 1, 0, 0, 0, 0), (51, .iconst 0, 1, 0, 0, 0, 0), (52, .putfield 59, 3, 0, 10, 208, 0), (55, .iconst 0, 1, 0, 0, 0, 0), (56, .istore_n 1, 1, 0, 0, 0, 0), (57, .iload_n 1, 1, 0, 0, 0, 0), (58, .bipush 7, 2, 0, 0, 0, 0), (60, .if_icmp .ge 16, 3, 0, 0, 0, 0), (63, .aload_n 0, 1, 0, 0, 0, 0)],
  [(64, .getfield 22, 3, 0, 13, 216, 0), (67, .iload_n 1, 1, 0, 0, 0, 0), (68, .iconst 0, 1, 0, 0, 0, 0), (69, .iastore, 1, 0, 0, 0, 0), (70, .iinc 1 1, 3, 0, 0, 0, 0), (73, .goto (-16), 3, 0, 0, 0, 0), (76, .iconst 0, 1, 0, 0, 0, 0), (77, .istore_n 1, 1, 0, 0, 0, 0), (78, .iload_n 1, 1, 0, 0, 0, 0), (79, .bipush 14, 2, 0, 0, 0, 0), (81, .if_icmp .gt 16, 3, 0, 0, 0, 0), (84, .aload_n 0, 1, 0, 0, 0, 0), (85, .getfield 25, 3, 0, 14, 219, 0), (88, .iload_n 1, 1, 0, 0, 0, 0), (89, .iconst 0, 1, 0, 0, 0, 0), (90, .iastore, 1, 0, 0, 0, 0), (91, .iinc 1 1, 3, 0, 0, 0, 0), (94, .goto (-16), 3, 0, 0, 0, 0)],
  [(97, .return_, 1, 0, 0, 0, 0)]]
def zT18 : List (List zE) := [[(0, .aload_n 0, 1, 0, 0, 0, 0), (1, .aload_n 0, 1, 0, 0, 0, 0), (2, .getfield 30, 3, 3, 6, 144, 0), (5, .putfield 142, 3, 3, 5, 143, 0), (8, .aload_n 0, 1, 0, 0, 0, 0), (9, .getfield 142, 3, 3, 5, 143, 0), (12, .aload_n 0, 1, 0, 0, 0, 0), (13, .getfield 19, 3, 3, 1, 137, 0), (16, .if_icmp .ge 44, 3, 0, 0, 0, 0)],
  [(60, .aload_n 0, 1, 0, 0, 0, 0), (61, .aload_n 0, 1, 0, 0, 0, 0), (62, .aload_n 0, 1, 0, 0, 0, 0), (63, .getfield 142, 3, 3, 5, 143, 0)],
  [(66, .invokevirtual 154, 3, 19, 0, 455, 0), (69, .putfield 36, 3, 3, 4, 142, 0), (72, .aload_n 0, 1, 0, 0, 0, 0), (73, .iconst 0, 1, 0, 0, 0, 0), (74, .putfield 139, 3, 3, 7, 145, 0), (77, .aload_n 0, 1, 0, 0, 0, 0), (78, .aload_n 0, 1, 0, 0, 0, 0), (79, .getfield 36, 3, 3, 4, 142, 0), (82, .ifCond .ne 10, 3, 0, 0, 0, 0), (85, .aload_n 0, 1, 0, 0, 0, 0), (86, .getfield 142, 3, 3, 5, 143, 0), (89, .goto 9, 3, 0, 0, 0, 0)],
  [(98, .putfield 30, 3, 3, 6, 144, 0), (101, .aload_n 0, 1, 0, 0, 0, 0), (102, .getfield 36, 3, 3, 4, 142, 0), (105, .iconst 2, 1, 0, 0, 0, 0), (106, .if_icmp .ne 19, 3, 0, 0, 0, 0), (125, .aload_n 0, 1, 0, 0, 0, 0), (126, .getfield 36, 3, 3, 4, 142, 0)],
  [(129, .iconst 1, 1, 0, 0, 0, 0), (130, .if_icmp .eq 11, 3, 0, 0, 0, 0), (133, .aload_n 0, 1, 0, 0, 0, 0), (134, .getfield 36, 3, 3, 4, 142, 0), (137, .iconst 2, 1, 0, 0, 0, 0), (138, .if_icmp .ne 7, 3, 0, 0, 0, 0), (145, .iconst 0, 1, 0, 0, 0, 0), (146, .istore_n 1, 1, 0, 0, 0, 0), (147, .iload_n 1, 1, 0, 0, 0, 0), (148, .ifCond .eq 83, 3, 0, 0, 0, 0)],
  [],
  [],
  [(231, .return_, 1, 0, 0, 0, 0)]]
def zT19 : List (List zE) := [[(0, .iload_n 1, 1, 0, 0, 0, 0), (1, .aload_n 0, 1, 0, 0, 0, 0), (2, .getfield 19, 3, 3, 1, 137, 0), (5, .if_icmp .lt 5, 3, 0, 0, 0, 0), (8, .iconst 0, 1, 0, 0, 0, 0), (9, .ireturn, 1, 0, 0, 0, 0)]]
def zT20 : List (List zE) := [[(0, .aload_n 0, 1, 0, 0, 0, 0), (1, .aload_n 1, 1, 0, 0, 0, 0), (2, .getfield 37, 3, 0, 0, 170, 0), (5, .putfield 37, 3, 0, 0, 170, 0), (8, .aload_n 0, 1, 0, 0, 0, 0), (9, .aload_n 1, 1, 0, 0, 0, 0), (10, .getfield 47, 3, 0, 1, 173, 0), (13, .putfield 47, 3, 0, 1, 173, 0), (16, .aload_n 0, 1, 0, 0, 0, 0), (17, .aload_n 1, 1, 0, 0, 0, 0), (18, .getfield 62, 3, 0, 2, 180, 0), (21, .putfield 62, 3, 0, 2, 180, 0), (24, .aload_n 0, 1, 0, 0, 0, 0), (25, .aload_n 1, 1, 0, 0, 0, 0), (26, .getfield 65, 3, 0, 3, 183, 0), (29, .putfield 65, 3, 0, 3, 183, 0)],
  [(32, .aload_n 0, 1, 0, 0, 0, 0), (33, .aload_n 1, 1, 0, 0, 0, 0), (34, .getfield 68, 3, 0, 4, 187, 0), (37, .putfield 68, 3, 0, 4, 187, 0), (40, .aload_n 0, 1, 0, 0, 0, 0), (41, .aload_n 1, 1, 0, 0, 0, 0), (42, .getfield 50, 3, 0, 5, 190, 0), (45, .putfield 50, 3, 0, 5, 190, 0), (48, .aload_n 0, 1, 0, 0, 0, 0), (49, .aload_n 1, 1, 0, 0, 0, 0), (50, .getfield 40, 3, 0, 6, 192, 0), (53, .putfield 40, 3, 0, 6, 192, 0), (56, .aload_n 0, 1, 0, 0, 0, 0), (57, .aload_n 1, 1, 0, 0, 0, 0), (58, .getfield 53, 3, 0, 7, 199, 0), (61, .putfield 53, 3, 0, 7, 199, 0)],
  [(64, .aload_n 0, 1, 0, 0, 0, 0), (65, .aload_n 1, 1, 0, 0, 0, 0), (66, .getfield 56, 3, 0, 8, 202, 0), (69, .putfield 56, 3, 0, 8, 202, 0), (72, .aload_n 0, 1, 0, 0, 0, 0), (73, .aload_n 1, 1, 0, 0, 0, 0), (74, .getfield 9, 3, 0, 9, 204, 0), (77, .putfield 9, 3, 0, 9, 204, 0), (80, .aload_n 0, 1, 0, 0, 0, 0), (81, .aload_n 1, 1, 0, 0, 0, 0), (82, .getfield 59, 3, 0, 10, 208, 0), (85, .putfield 59, 3, 0, 10, 208, 0), (88, .aload_n 1, 1, 0, 0, 0, 0), (89, .getfield 15, 3, 0, 11, 210, 0), (92, .iconst 0, 1, 0, 0, 0, 0), (93, .aload_n 0, 1, 0, 0, 0, 0), (94, .getfield 15, 3, 0, 11, 210, 0)],
  [(97, .iconst 0, 1, 0, 0, 0, 0), (98, .bipush 7, 2, 0, 0, 0, 0), (100, .invokestatic 71, 3, 0, 5, 551, 0), (103, .aload_n 1, 1, 0, 0, 0, 0), (104, .getfield 19, 3, 0, 12, 213, 0), (107, .iconst 0, 1, 0, 0, 0, 0), (108, .aload_n 0, 1, 0, 0, 0, 0), (109, .getfield 19, 3, 0, 12, 213, 0), (112, .iconst 0, 1, 0, 0, 0, 0), (113, .bipush 7, 2, 0, 0, 0, 0), (115, .invokestatic 71, 3, 0, 5, 551, 0), (118, .aload_n 1, 1, 0, 0, 0, 0), (119, .getfield 22, 3, 0, 13, 216, 0), (122, .iconst 0, 1, 0, 0, 0, 0), (123, .aload_n 0, 1, 0, 0, 0, 0), (124, .getfield 22, 3, 0, 13, 216, 0), (127, .iconst 0, 1, 0, 0, 0, 0)],
  [(128, .bipush 7, 2, 0, 0, 0, 0), (130, .invokestatic 71, 3, 0, 5, 551, 0), (133, .aload_n 1, 1, 0, 0, 0, 0), (134, .getfield 25, 3, 0, 14, 219, 0), (137, .iconst 0, 1, 0, 0, 0, 0), (138, .aload_n 0, 1, 0, 0, 0, 0), (139, .getfield 25, 3, 0, 14, 219, 0), (142, .iconst 0, 1, 0, 0, 0, 0), (143, .bipush 15, 2, 0, 0, 0, 0), (145, .invokestatic 71, 3, 0, 5, 551, 0), (148, .aload_n 1, 1, 0, 0, 0, 0), (149, .getfield 28, 3, 0, 15, 220, 0), (152, .iconst 0, 1, 0, 0, 0, 0), (153, .aload_n 0, 1, 0, 0, 0, 0), (154, .getfield 28, 3, 0, 15, 220, 0), (157, .iconst 0, 1, 0, 0, 0, 0), (158, .bipush 30, 2, 0, 0, 0, 0)],
  [(160, .invokestatic 71, 3, 0, 5, 551, 0), (163, .aload_n 1, 1, 0, 0, 0, 0), (164, .getfield 31, 3, 0, 16, 222, 0), (167, .iconst 0, 1, 0, 0, 0, 0), (168, .aload_n 0, 1, 0, 0, 0, 0), (169, .getfield 31, 3, 0, 16, 222, 0), (172, .iconst 0, 1, 0, 0, 0, 0), (173, .bipush 30, 2, 0, 0, 0, 0), (175, .invokestatic 71, 3, 0, 5, 551, 0), (178, .aload_n 1, 1, 0, 0, 0, 0), (179, .getfield 34, 3, 0, 17, 224, 0), (182, .iconst 0, 1, 0, 0, 0, 0), (183, .aload_n 0, 1, 0, 0, 0, 0), (184, .getfield 34, 3, 0, 17, 224, 0), (187, .iconst 0, 1, 0, 0, 0, 0), (188, .bipush 30, 2, 0, 0, 0, 0), (190, .invokestatic 71, 3, 0, 5, 551, 0)],
  [(193, .return_, 1, 0, 0, 0, 0)]]
def zT21 : List (List zE) := [[(0, .aload_n 0, 1, 0, 0, 0, 0), (1, .getfield 31, 3, 6, 3, 397, 0), (4, .invokevirtual 200, 3, 22, 0, 557, 0), (7, .aload_n 0, 1, 0, 0, 0, 0), (8, .getfield 31, 3, 6, 3, 397, 0), (11, .aload_n 0, 1, 0, 0, 0, 0), (12, .getfield 19, 3, 6, 1, 395, 0), (15, .getfield 164, 3, 0, 1, 177, 0), (18, .invokevirtual 249, 3, 26, 0, 575, 0), (21, .return_, 1, 0, 0, 0, 0)]]
def zT22 : List (List zE) := [[(0, .aload_n 0, 1, 0, 0, 0, 0), (1, .aload_n 0, 1, 0, 0, 0, 0), (2, .getfield 36, 3, 5, 0, 270, 0), (5, .getfield 40, 3, 0, 2, 178, 0), (8, .putfield 46, 3, 5, 1, 272, 0), (11, .aload_n 0, 1, 0, 0, 0, 0), (12, .aload_n 0, 1, 0, 0, 0, 0), (13, .getfield 36, 3, 5, 0, 270, 0), (16, .getfield 47, 3, 0, 9, 205, 0), (19, .putfield 50, 3, 5, 2, 274, 0), (22, .aload_n 0, 1, 0, 0, 0, 0), (23, .iconst 0, 1, 0, 0, 0, 0), (24, .putfield 53, 3, 5, 3, 276, 0), (27, .aload_n 0, 1, 0, 0, 0, 0), (28, .getfield 36, 3, 5, 0, 270, 0), (31, .getfield 56, 3, 0, 11, 211, 0)],
  [(34, .iconst 0, 1, 0, 0, 0, 0), (35, .aload_n 0, 1, 0, 0, 0, 0), (36, .getfield 9, 3, 5, 4, 278, 0), (39, .iconst 0, 1, 0, 0, 0, 0), (40, .bipush 7, 2, 0, 0, 0, 0), (42, .invokestatic 57, 3, 0, 5, 561, 0), (45, .aload_n 0, 1, 0, 0, 0, 0), (46, .getfield 36, 3, 5, 0, 270, 0), (49, .getfield 63, 3, 0, 12, 214, 0), (52, .iconst 0, 1, 0, 0, 0, 0), (53, .aload_n 0, 1, 0, 0, 0, 0), (54, .getfield 15, 3, 5, 5, 280, 0), (57, .iconst 0, 1, 0, 0, 0, 0), (58, .bipush 7, 2, 0, 0, 0, 0), (60, .invokestatic 57, 3, 0, 5, 561, 0), (63, .aload_n 0, 1, 0, 0, 0, 0)],
  [(64, .getfield 36, 3, 5, 0, 270, 0), (67, .getfield 64, 3, 0, 13, 217, 0), (70, .iconst 0, 1, 0, 0, 0, 0), (71, .aload_n 0, 1, 0, 0, 0, 0), (72, .getfield 18, 3, 5, 6, 282, 0), (75, .iconst 0, 1, 0, 0, 0, 0), (76, .bipush 7, 2, 0, 0, 0, 0), (78, .invokestatic 57, 3, 0, 5, 561, 0), (81, .aload_n 0, 1, 0, 0, 0, 0), (82, .aload_n 0, 1, 0, 0, 0, 0), (83, .getfield 36, 3, 5, 0, 270, 0), (86, .invokevirtual 65, 3, 23, 0, 562, 0), (89, .invokevirtual 69, 3, 24, 0, 566, 0), (92, .aload_n 0, 1, 0, 0, 0, 0), (93, .invokevirtual 73, 3, 25, 0, 569, 0)],
  [(96, .return_, 1, 0, 0, 0, 0)]]
def zT23 : List (List zE) := [[(0, .iconst 1, 1, 0, 0, 0, 0), (1, .aload_n 0, 1, 0, 0, 0, 0), (2, .getfield 40, 3, 0, 6, 192, 0), (5, .ishl, 1, 0, 0, 0, 0), (6, .iconst 1, 1, 0, 0, 0, 0), (7, .isub, 1, 0, 0, 0, 0), (8, .ireturn, 1, 0, 0, 0, 0)]]
def zT24 : List (List zE) := [[(0, .iconst 0, 1, 0, 0, 0, 0), (1, .istore_n 2, 1, 0, 0, 0, 0), (2, .iload_n 2, 1, 0, 0, 0, 0), (3, .bipush 14, 2, 0, 0, 0, 0), (5, .if_icmp .gt 16, 3, 0, 0, 0, 0), (8, .aload_n 0, 1, 0, 0, 0, 0), (9, .getfield 21, 3, 5, 7, 284, 0), (12, .iload_n 2, 1, 0, 0, 0, 0), (13, .iconst (-1), 1, 0, 0, 0, 0), (14, .iastore, 1, 0, 0, 0, 0), (15, .iinc 2 1, 3, 0, 0, 0, 0), (18, .goto (-16), 3, 0, 0, 0, 0), (21, .iconst 0, 1, 0, 0, 0, 0), (22, .istore_n 2, 1, 0, 0, 0, 0), (23, .iload_n 2, 1, 0, 0, 0, 0), (24, .aload_n 0, 1, 0, 0, 0, 0), (25, .getfield 36, 3, 5, 0, 270, 0), (28, .getfield 79, 3, 0, 10, 207, 0), (31, .if_icmp .ge 61, 3, 0, 0, 0, 0)],
  [],
  [(92, .return_, 1, 0, 0, 0, 0)]]
def zT25 : List (List zE) := [[(0, .iconst 0, 1, 0, 0, 0, 0), (1, .istore_n 1, 1, 0, 0, 0, 0), (2, .iload_n 1, 1, 0, 0, 0, 0), (3, .aload_n 0, 1, 0, 0, 0, 0), (4, .getfield 24, 3, 5, 8, 285, 0), (7, .arraylength, 1, 0, 0, 0, 0), (8, .if_icmp .ge 16, 3, 0, 0, 0, 0), (11, .aload_n 0, 1, 0, 0, 0, 0), (12, .getfield 24, 3, 5, 8, 285, 0), (15, .iload_n 1, 1, 0, 0, 0, 0), (16, .iconst 0, 1, 0, 0, 0, 0), (17, .iastore, 1, 0, 0, 0, 0), (18, .iinc 1 1, 3, 0, 0, 0, 0), (21, .goto (-19), 3, 0, 0, 0, 0), (24, .iconst 0, 1, 0, 0, 0, 0), (25, .istore_n 1, 1, 0, 0, 0, 0), (26, .iload_n 1, 1, 0, 0, 0, 0), (27, .aload_n 0, 1, 0, 0, 0, 0), (28, .getfield 36, 3, 5, 0, 270, 0), (31, .getfield 79, 3, 0, 10, 207, 0)],
  [(34, .if_icmp .ge 52, 3, 0, 0, 0, 0)],
  [(86, .return_, 1, 0, 0, 0, 0)]]
def zT26 : List (List zE) := [[(0, .aload_n 0, 1, 0, 0, 0, 0), (1, .invokevirtual 95, 3, 27, 0, 579, 0), (4, .iconst 0, 1, 0, 0, 0, 0), (5, .istore_n 2, 1, 0, 0, 0, 0), (6, .iload_n 2, 1, 0, 0, 0, 0), (7, .iload_n 1, 1, 0, 0, 0, 0), (8, .if_icmp .ge 90, 3, 0, 0, 0, 0)],
  [],
  [],
  [(98, .return_, 1, 0, 0, 0, 0)]]
def zT27 : List (List zE) := [[(0, .aload_n 0, 1, 0, 0, 0, 0), (1, .getfield 27, 3, 5, 9, 286, 0), (4, .iconst 0, 1, 0, 0, 0, 0), (5, .aload_n 0, 1, 0, 0, 0, 0), (6, .getfield 50, 3, 5, 2, 274, 0), (9, .iastore, 1, 0, 0, 0, 0), (10, .iconst 0, 1, 0, 0, 0, 0), (11, .istore_n 1, 1, 0, 0, 0, 0), (12, .iload_n 1, 1, 0, 0, 0, 0), (13, .aload_n 0, 1, 0, 0, 0, 0), (14, .getfield 36, 3, 5, 0, 270, 0), (17, .getfield 76, 3, 0, 6, 194, 0), (20, .if_icmp .ge 43, 3, 0, 0, 0, 0)],
  [(63, .return_, 1, 0, 0, 0, 0)]]
def zT28 : List (List zE) := [[(0, .aload_n 0, 1, 0, 0, 0, 0), (1, .iconst 0, 1, 0, 0, 0, 0), (2, .putfield 83, 3, 7, 0, 1125, 0), (5, .aload_n 0, 1, 0, 0, 0, 0), (6, .invokevirtual 207, 3, 29, 0, 1308, 0), (9, .aload_n 0, 1, 0, 0, 0, 0), (10, .invokevirtual 210, 3, 31, 0, 1314, 0), (13, .aload_n 0, 1, 0, 0, 0, 0), (14, .invokevirtual 213, 3, 34, 0, 1328, 0), (17, .ifCond .eq 131, 3, 0, 0, 0, 0), (20, .aload_n 0, 1, 0, 0, 0, 0), (21, .getfield 124, 3, 7, 8, 1133, 0), (24, .ifCond .eq 124, 3, 0, 0, 0, 0)],
  [],
  [],
  [],
  [(148, .aload_n 0, 1, 0, 0, 0, 0), (149, .invokevirtual 235, 3, 35, 0, 1386, 0), (152, .aload_n 0, 1, 0, 0, 0, 0), (153, .getfield 135, 3, 7, 12, 1137, 0), (156, .ifCond .eq 6, 3, 0, 0, 0, 0)],
  [(162, .aload_n 0, 1, 0, 0, 0, 0), (163, .iconst 4, 1, 0, 0, 0, 0), (164, .iconst 0, 1, 0, 0, 0, 0), (165, .invokevirtual 238, 3, 36, 0, 1389, 0), (168, .aload_n 0, 1, 0, 0, 0, 0), (169, .getfield 31, 3, 7, 16, 1141, 0), (172, .iconst 0, 1, 0, 0, 0, 0), (173, .iaload, 1, 0, 0, 0, 0), (174, .ireturn, 1, 0, 0, 0, 0)]]
def zT29 : List (List zE) := [[(0, .aload_n 0, 1, 0, 0, 0, 0), (1, .getfield 31, 3, 7, 16, 1141, 0), (4, .iconst 4, 1, 0, 0, 0, 0), (5, .iconst 0, 1, 0, 0, 0, 0), (6, .iastore, 1, 0, 0, 0, 0), (7, .iconst 0, 1, 0, 0, 0, 0), (8, .istore_n 1, 1, 0, 0, 0, 0), (9, .iload_n 1, 1, 0, 0, 0, 0), (10, .bipush 10, 2, 0, 0, 0, 0), (12, .if_icmp .ge 15, 3, 0, 0, 0, 0), (15, .aload_n 0, 1, 0, 0, 0, 0), (16, .iload_n 1, 1, 0, 0, 0, 0), (17, .iconst 0, 1, 0, 0, 0, 0), (18, .invokevirtual 178, 3, 30, 0, 1311, 0), (21, .iinc 1 1, 3, 0, 0, 0, 0), (24, .goto (-15), 3, 0, 0, 0, 0), (27, .aload_n 0, 1, 0, 0, 0, 0), (28, .bipush 9, 2, 0, 0, 0, 0), (30, .iconst (-1), 1, 0, 0, 0, 0), (31, .invokevirtual 178, 3, 30, 0, 1311, 0)],
  [(34, .return_, 1, 0, 0, 0, 0)]]
def zT30 : List (List zE) := [[(0, .aload_n 0, 1, 0, 0, 0, 0), (1, .getfield 34, 3, 7, 17, 1142, 0), (4, .bipush 40, 2, 0, 0, 0, 0), (6, .iload_n 1, 1, 0, 0, 0, 0), (7, .iadd, 1, 0, 0, 0, 0), (8, .iload_n 2, 1, 0, 0, 0, 0), (9, .iastore, 1, 0, 0, 0, 0), (10, .return_, 1, 0, 0, 0, 0)]]
def zT31 : List (List zE) := [[(0, .aload_n 0, 1, 0, 0, 0, 0), (1, .iconst 0, 1, 0, 0, 0, 0), (2, .putfield 135, 3, 7, 12, 1137, 0), (5, .aload_n 0, 1, 0, 0, 0, 0), (6, .iconst (-1), 1, 0, 0, 0, 0), (7, .putfield 138, 3, 7, 13, 1138, 0), (10, .aload_n 0, 1, 0, 0, 0, 0), (11, .iconst 0, 1, 0, 0, 0, 0), (12, .putfield 107, 3, 7, 7, 1132, 0), (15, .aload_n 0, 1, 0, 0, 0, 0), (16, .invokevirtual 145, 3, 32, 0, 1317, 0), (19, .return_, 1, 0, 0, 0, 0)]]
def zT32 : List (List zE) := [[(0, .aload_n 0, 1, 0, 0, 0, 0), (1, .aload_n 0, 1, 0, 0, 0, 0), (2, .getfield 107, 3, 7, 7, 1132, 0), (5, .bipush 32, 2, 0, 0, 0, 0), (7, .bipush 32, 2, 0, 0, 0, 0), (9, .invokevirtual 110, 3, 33, 0, 1320, 0), (12, .ifCond .ne 18, 3, 0, 0, 0, 0), (15, .aload_n 0, 1, 0, 0, 0, 0), (16, .aload_n 0, 1, 0, 0, 0, 0), (17, .getfield 107, 3, 7, 7, 1132, 0), (20, .bipush 10, 2, 0, 0, 0, 0), (22, .bipush 10, 2, 0, 0, 0, 0), (24, .invokevirtual 110, 3, 33, 0, 1320, 0), (27, .ifCond .eq 16, 3, 0, 0, 0, 0)],
  [(43, .aload_n 0, 1, 0, 0, 0, 0), (44, .aload_n 0, 1, 0, 0, 0, 0), (45, .getfield 107, 3, 7, 7, 1132, 0), (48, .putfield 114, 3, 7, 9, 1134, 0), (51, .aload_n 0, 1, 0, 0, 0, 0), (52, .iconst 0, 1, 0, 0, 0, 0), (53, .putfield 117, 3, 7, 10, 1135, 0), (56, .aload_n 0, 1, 0, 0, 0, 0), (57, .lconst 0, 1, 0, 0, 0, 0), (58, .putfield 120, 3, 7, 11, 1136, 2), (61, .aload_n 0, 1, 0, 0, 0, 0), (62, .getfield 107, 3, 7, 7, 1132, 0)],
  [(65, .aload_n 0, 1, 0, 0, 0, 0), (66, .getfield 100, 3, 7, 6, 1131, 0), (69, .if_icmp .ne 11, 3, 0, 0, 0, 0), (72, .aload_n 0, 1, 0, 0, 0, 0), (73, .iconst 0, 1, 0, 0, 0, 0), (74, .putfield 124, 3, 7, 8, 1133, 0), (77, .goto 230, 3, 0, 0, 0, 0)],
  [],
  [],
  [],
  [],
  [],
  [],
  [(307, .return_, 1, 0, 0, 0, 0)]]
def zT33 : List (List zE) := [[(0, .iload_n 1, 1, 0, 0, 0, 0), (1, .aload_n 0, 1, 0, 0, 0, 0), (2, .getfield 100, 3, 7, 6, 1131, 0), (5, .if_icmp .ge 27, 3, 0, 0, 0, 0)],
  [(32, .iconst 0, 1, 0, 0, 0, 0), (33, .ireturn, 1, 0, 0, 0, 0)]]
def zT34 : List (List zE) := [[(0, .aload_n 0, 1, 0, 0, 0, 0), (1, .getfield 135, 3, 7, 12, 1137, 0), (4, .ifCond .ne 7, 3, 0, 0, 0, 0), (7, .iconst 1, 1, 0, 0, 0, 0), (8, .goto 4, 3, 0, 0, 0, 0), (12, .ireturn, 1, 0, 0, 0, 0)]]
def zT35 : List (List zE) := [[(0, .aload_n 0, 1, 0, 0, 0, 0), (1, .iconst 0, 1, 0, 0, 0, 0), (2, .putfield 100, 3, 7, 6, 1131, 0), (5, .aload_n 0, 1, 0, 0, 0, 0), (6, .aload_n 0, 1, 0, 0, 0, 0), (7, .getfield 135, 3, 7, 12, 1137, 0), (10, .putfield 162, 3, 7, 14, 1139, 0), (13, .aload_n 0, 1, 0, 0, 0, 0), (14, .aload_n 0, 1, 0, 0, 0, 0), (15, .getfield 135, 3, 7, 12, 1137, 0), (18, .ifCond .ne 7, 3, 0, 0, 0, 0), (21, .iconst (-1), 1, 0, 0, 0, 0), (22, .goto 7, 3, 0, 0, 0, 0), (29, .putfield 27, 3, 7, 15, 1140, 0)],
  [(32, .return_, 1, 0, 0, 0, 0)]]
def zT36 : List (List zE) := [[(0, .aload_n 0, 1, 0, 0, 0, 0), (1, .getfield 31, 3, 7, 16, 1141, 0), (4, .iconst 1, 1, 0, 0, 0, 0), (5, .iload_n 1, 1, 0, 0, 0, 0), (6, .iload_n 2, 1, 0, 0, 0, 0), (7, .invokestatic 241, 3, 37, 1, 1392, 0), (10, .aload_n 0, 1, 0, 0, 0, 0), (11, .getfield 34, 3, 7, 17, 1142, 0), (14, .bipush 10, 2, 0, 0, 0, 0), (16, .iload_n 1, 1, 0, 0, 0, 0), (17, .iload_n 2, 1, 0, 0, 0, 0), (18, .invokestatic 241, 3, 37, 1, 1392, 0), (21, .aload_n 0, 1, 0, 0, 0, 0), (22, .getfield 37, 3, 7, 18, 1143, 0), (25, .bipush 14, 2, 0, 0, 0, 0), (27, .iload_n 1, 1, 0, 0, 0, 0), (28, .iload_n 2, 1, 0, 0, 0, 0), (29, .invokestatic 241, 3, 37, 1, 1392, 0)],
  [(32, .aload_n 0, 1, 0, 0, 0, 0), (33, .getfield 40, 3, 7, 19, 1144, 0), (36, .bipush 24, 2, 0, 0, 0, 0), (38, .iload_n 1, 1, 0, 0, 0, 0), (39, .iload_n 2, 1, 0, 0, 0, 0), (40, .invokestatic 241, 3, 37, 1, 1392, 0), (43, .aload_n 0, 1, 0, 0, 0, 0), (44, .getfield 43, 3, 7, 20, 1145, 0), (47, .bipush 16, 2, 0, 0, 0, 0), (49, .iload_n 1, 1, 0, 0, 0, 0), (50, .iload_n 2, 1, 0, 0, 0, 0), (51, .invokestatic 241, 3, 37, 1, 1392, 0), (54, .aload_n 0, 1, 0, 0, 0, 0), (55, .getfield 46, 3, 7, 21, 1146, 0), (58, .bipush 90, 2, 0, 0, 0, 0), (60, .iload_n 1, 1, 0, 0, 0, 0), (61, .iload_n 2, 1, 0, 0, 0, 0), (62, .invokestatic 241, 3, 37, 1, 1392, 0)],
  [(65, .return_, 1, 0, 0, 0, 0)]]
def zT37 : List (List zE) := [[(0, .iconst 0, 1, 0, 0, 0, 0), (1, .istore 4, 2, 0, 0, 0, 0), (3, .iload 4, 2, 0, 0, 0, 0), (5, .iload_n 1, 1, 0, 0, 0, 0), (6, .if_icmp .ge 25, 3, 0, 0, 0, 0), (9, .aload_n 0, 1, 0, 0, 0, 0), (10, .iload_n 1, 1, 0, 0, 0, 0), (11, .iload_n 3, 1, 0, 0, 0, 0), (12, .imul, 1, 0, 0, 0, 0), (13, .iload 4, 2, 0, 0, 0, 0), (15, .iadd, 1, 0, 0, 0, 0), (16, .aload_n 0, 1, 0, 0, 0, 0), (17, .iload_n 1, 1, 0, 0, 0, 0), (18, .iload_n 2, 1, 0, 0, 0, 0), (19, .imul, 1, 0, 0, 0, 0), (20, .iload 4, 2, 0, 0, 0, 0), (22, .iadd, 1, 0, 0, 0, 0), (23, .iaload, 1, 0, 0, 0, 0), (24, .iastore, 1, 0, 0, 0, 0), (25, .iinc 4 1, 3, 0, 0, 0, 0), (28, .goto (-25), 3, 0, 0, 0, 0), (31, .return_, 1, 0, 0, 0, 0)]]
def zT38 : List (List zE) := [[(0, .iload_n 1, 1, 0, 0, 0, 0), (1, .ifCond .ne 11, 3, 0, 0, 0, 0), (4, .aload_n 0, 1, 0, 0, 0, 0), (5, .getfield 12, 3, 6, 0, 394, 0), (8, .getfield 94, 3, 3, 2, 139, 0), (11, .ireturn, 1, 0, 0, 0, 0), (12, .iload_n 1, 1, 0, 0, 0, 0), (13, .iconst 1, 1, 0, 0, 0, 0), (14, .if_icmp .ne 13, 3, 0, 0, 0, 0), (17, .aload_n 0, 1, 0, 0, 0, 0), (18, .getfield 12, 3, 6, 0, 394, 0), (21, .getfield 97, 3, 3, 3, 141, 0), (24, .goto 4, 3, 0, 0, 0, 0), (27, .iconst (-1), 1, 0, 0, 0, 0), (28, .ireturn, 1, 0, 0, 0, 0)]]
def zT39 : List (List zE) := [[(0, .aload_n 0, 1, 0, 0, 0, 0), (1, .iconst 0, 1, 0, 0, 0, 0), (2, .putfield 83, 3, 7, 0, 1125, 0), (5, .iload_n 1, 1, 0, 0, 0, 0), (6, .ifCond .ne 10, 3, 0, 0, 0, 0), (9, .aload_n 0, 1, 0, 0, 0, 0), (10, .getfield 162, 3, 7, 14, 1139, 0), (13, .goto 16, 3, 0, 0, 0, 0), (16, .iload_n 1, 1, 0, 0, 0, 0), (17, .iconst 1, 1, 0, 0, 0, 0), (18, .if_icmp .ne 10, 3, 0, 0, 0, 0), (21, .aload_n 0, 1, 0, 0, 0, 0), (22, .getfield 27, 3, 7, 15, 1140, 0), (25, .goto 4, 3, 0, 0, 0, 0), (28, .iconst (-1), 1, 0, 0, 0, 0), (29, .ireturn, 1, 0, 0, 0, 0)]]
def zT40 : List (List zE) := [[(0, .aload_n 0, 1, 0, 0, 0, 0), (1, .getfield 19, 3, 6, 1, 395, 0), (4, .iload_n 1, 1, 0, 0, 0, 0), (5, .invokevirtual 100, 3, 41, 0, 631, 0), (8, .ifCond .eq 12, 3, 0, 0, 0, 0), (20, .bipush (-2), 2, 0, 0, 0, 0), (22, .ireturn, 1, 0, 0, 0, 0)]]
def zT41 : List (List zE) := [[(0, .iload_n 1, 1, 0, 0, 0, 0), (1, .ifCond .lt 15, 3, 0, 0, 0, 0), (4, .iload_n 1, 1, 0, 0, 0, 0), (5, .aload_n 0, 1, 0, 0, 0, 0), (6, .getfield 40, 3, 0, 6, 192, 0), (9, .if_icmp .ge 7, 3, 0, 0, 0, 0), (16, .iconst 0, 1, 0, 0, 0, 0), (17, .ireturn, 1, 0, 0, 0, 0)]]
def zT42 : List (List zE) := [[(0, .aload_n 0, 1, 0, 0, 0, 0), (1, .iconst 0, 1, 0, 0, 0, 0), (2, .putfield 83, 3, 7, 0, 1125, 0), (5, .aload_n 0, 1, 0, 0, 0, 0), (6, .iload_n 1, 1, 0, 0, 0, 0), (7, .i2l, 1, 0, 0, 0, 0), (8, .invokevirtual 254, 3, 43, 0, 1399, 0), (11, .ifCond .eq 23, 3, 0, 0, 0, 0)],
  [(34, .bipush (-2), 2, 0, 0, 0, 0), (36, .ireturn, 1, 0, 0, 0, 0)]]
def zT43 : List (List zE) := [[(0, .lload_n 1, 1, 0, 0, 0, 0), (1, .lconst 0, 1, 0, 0, 0, 0), (2, .aload_n 0, 1, 0, 0, 0, 0), (3, .invokevirtual 245, 3, 44, 0, 1402, 0), (6, .i2l, 1, 0, 0, 0, 0), (7, .lconst 1, 1, 0, 0, 0, 0), (8, .lsub, 1, 0, 0, 0, 0), (9, .invokestatic 88, 3, 14, 1, 1275, 0), (12, .ireturn, 1, 0, 0, 0, 0)]]
def zT44 : List (List zE) := [[(0, .aload_n 0, 1, 0, 0, 0, 0), (1, .getfield 34, 3, 7, 17, 1142, 0), (4, .iconst 5, 1, 0, 0, 0, 0), (5, .iaload, 1, 0, 0, 0, 0), (6, .ireturn, 1, 0, 0, 0, 0)]]
def zT45 : List (List zE) := [[(0, .aload_n 0, 1, 0, 0, 0, 0), (1, .getfield 19, 3, 6, 1, 395, 0), (4, .iload_n 1, 1, 0, 0, 0, 0), (5, .invokevirtual 100, 3, 41, 0, 631, 0), (8, .ifCond .eq 15, 3, 0, 0, 0, 0), (23, .bipush (-2), 2, 0, 0, 0, 0), (25, .ireturn, 1, 0, 0, 0, 0)]]
def zT46 : List (List zE) := [[(0, .aload_n 0, 1, 0, 0, 0, 0), (1, .iconst 0, 1, 0, 0, 0, 0), (2, .putfield 83, 3, 7, 0, 1125, 0), (5, .aload_n 0, 1, 0, 0, 0, 0), (6, .iload_n 1, 1, 0, 0, 0, 0), (7, .i2l, 1, 0, 0, 0, 0), (8, .invokevirtual 254, 3, 43, 0, 1399, 0), (11, .ifCond .ne 6, 3, 0, 0, 0, 0), (14, .bipush (-2), 2, 0, 0, 0, 0), (16, .ireturn, 1, 0, 0, 0, 0)]]
def zT47 : List (List zE) := [[(0, .aload_n 0, 1, 0, 0, 0, 0), (1, .getfield 19, 3, 6, 1, 395, 0), (4, .iload_n 1, 1, 0, 0, 0, 0), (5, .invokevirtual 100, 3, 41, 0, 631, 0), (8, .ifCond .eq 14, 3, 0, 0, 0, 0), (22, .bipush (-2), 2, 0, 0, 0, 0), (24, .ireturn, 1, 0, 0, 0, 0)]]
def zT48 : List (List zE) := [[(0, .aload_n 0, 1, 0, 0, 0, 0), (1, .iconst 0, 1, 0, 0, 0, 0), (2, .putfield 83, 3, 7, 0, 1125, 0), (5, .aload_n 0, 1, 0, 0, 0, 0), (6, .iload_n 1, 1, 0, 0, 0, 0), (7, .i2l, 1, 0, 0, 0, 0), (8, .invokevirtual 254, 3, 43, 0, 1399, 0), (11, .ifCond .eq 12, 3, 0, 0, 0, 0), (23, .bipush (-2), 2, 0, 0, 0, 0), (25, .ireturn, 1, 0, 0, 0, 0)]]
def zT49 : List (List zE) := [[(0, .aload_n 0, 1, 0, 0, 0, 0), (1, .getfield 19, 3, 6, 1, 395, 0), (4, .iload_n 1, 1, 0, 0, 0, 0), (5, .invokevirtual 100, 3, 41, 0, 631, 0), (8, .ifCond .eq 14, 3, 0, 0, 0, 0), (22, .bipush (-2), 2, 0, 0, 0, 0), (24, .ireturn, 1, 0, 0, 0, 0)]]
def zT50 : List (List zE) := [[(0, .aload_n 0, 1, 0, 0, 0, 0), (1, .iconst 0, 1, 0, 0, 0, 0), (2, .putfield 83, 3, 7, 0, 1125, 0), (5, .aload_n 0, 1, 0, 0, 0, 0), (6, .iload_n 1, 1, 0, 0, 0, 0), (7, .i2l, 1, 0, 0, 0, 0), (8, .invokevirtual 254, 3, 43, 0, 1399, 0), (11, .ifCond .ne 6, 3, 0, 0, 0, 0), (14, .bipush (-2), 2, 0, 0, 0, 0), (16, .ireturn, 1, 0, 0, 0, 0)]]
def zT51 : List (List zE) := [[(0, .aload_n 0, 1, 0, 0, 0, 0), (1, .getfield 19, 3, 6, 1, 395, 0), (4, .invokevirtual 120, 3, 52, 0, 653, 0), (7, .ifCond .eq 13, 3, 0, 0, 0, 0), (20, .bipush (-2), 2, 0, 0, 0, 0), (22, .ireturn, 1, 0, 0, 0, 0)]]
def zT52 : List (List zE) := [[(0, .aload_n 0, 1, 0, 0, 0, 0), (1, .getfield 37, 3, 0, 0, 170, 0), (4, .ifCond .le 7, 3, 0, 0, 0, 0), (11, .iconst 0, 1, 0, 0, 0, 0), (12, .ireturn, 1, 0, 0, 0, 0)]]
def zT53 : List (List zE) := [[(0, .aload_n 0, 1, 0, 0, 0, 0), (1, .iconst 0, 1, 0, 0, 0, 0), (2, .putfield 83, 3, 7, 0, 1125, 0), (5, .aload_n 0, 1, 0, 0, 0, 0), (6, .invokevirtual 248, 3, 54, 0, 1436, 0), (9, .ifCond .eq 13, 3, 0, 0, 0, 0), (22, .bipush (-2), 2, 0, 0, 0, 0), (24, .ireturn, 1, 0, 0, 0, 0)]]
def zT54 : List (List zE) := [[(0, .aload_n 0, 1, 0, 0, 0, 0), (1, .getfield 31, 3, 7, 16, 1141, 0), (4, .iconst 0, 1, 0, 0, 0, 0), (5, .iaload, 1, 0, 0, 0, 0), (6, .ifCond .le 7, 3, 0, 0, 0, 0), (13, .iconst 0, 1, 0, 0, 0, 0), (14, .ireturn, 1, 0, 0, 0, 0)]]
def zT55 : List (List zE) := [[(0, .aload_n 0, 1, 0, 0, 0, 0), (1, .getfield 19, 3, 6, 1, 395, 0), (4, .invokevirtual 120, 3, 52, 0, 653, 0), (7, .ifCond .eq 10, 3, 0, 0, 0, 0), (17, .bipush (-2), 2, 0, 0, 0, 0), (19, .ireturn, 1, 0, 0, 0, 0)]]
def zT56 : List (List zE) := [[(0, .aload_n 0, 1, 0, 0, 0, 0), (1, .iconst 0, 1, 0, 0, 0, 0), (2, .putfield 83, 3, 7, 0, 1125, 0), (5, .aload_n 0, 1, 0, 0, 0, 0), (6, .invokevirtual 248, 3, 54, 0, 1436, 0), (9, .ifCond .eq 10, 3, 0, 0, 0, 0), (19, .bipush (-2), 2, 0, 0, 0, 0), (21, .ireturn, 1, 0, 0, 0, 0)]]
def zT57 : List (List zE) := [[(0, .aload_n 0, 1, 0, 0, 0, 0), (1, .getfield 19, 3, 6, 1, 395, 0), (4, .iload_n 1, 1, 0, 0, 0, 0), (5, .invokevirtual 133, 3, 58, 0, 675, 0), (8, .ifCond .eq 15, 3, 0, 0, 0, 0), (23, .bipush (-2), 2, 0, 0, 0, 0), (25, .ireturn, 1, 0, 0, 0, 0)]]
def zT58 : List (List zE) := [[(0, .aload_n 0, 1, 0, 0, 0, 0), (1, .invokevirtual 43, 3, 52, 0, 679, 0), (4, .ifCond .eq 19, 3, 0, 0, 0, 0), (23, .iconst 0, 1, 0, 0, 0, 0), (24, .ireturn, 1, 0, 0, 0, 0)]]
def zT59 : List (List zE) := [[(0, .aload_n 0, 1, 0, 0, 0, 0), (1, .iconst 0, 1, 0, 0, 0, 0), (2, .putfield 83, 3, 7, 0, 1125, 0), (5, .aload_n 0, 1, 0, 0, 0, 0), (6, .iload_n 1, 1, 0, 0, 0, 0), (7, .i2l, 1, 0, 0, 0, 0), (8, .invokevirtual 257, 3, 60, 0, 1453, 0), (11, .ifCond .ne 6, 3, 0, 0, 0, 0), (14, .bipush (-2), 2, 0, 0, 0, 0), (16, .ireturn, 1, 0, 0, 0, 0)]]
def zT60 : List (List zE) := [[(0, .aload_n 0, 1, 0, 0, 0, 0), (1, .invokevirtual 248, 3, 54, 0, 1436, 0), (4, .ifCond .eq 20, 3, 0, 0, 0, 0), (24, .iconst 0, 1, 0, 0, 0, 0), (25, .ireturn, 1, 0, 0, 0, 0)]]
def zT61 : List (List zE) := [[(0, .aload_n 0, 1, 0, 0, 0, 0), (1, .getfield 19, 3, 6, 1, 395, 0), (4, .iload_n 1, 1, 0, 0, 0, 0), (5, .invokevirtual 100, 3, 41, 0, 631, 0), (8, .ifCond .eq 14, 3, 0, 0, 0, 0), (22, .bipush (-2), 2, 0, 0, 0, 0), (24, .ireturn, 1, 0, 0, 0, 0)]]
def zT62 : List (List zE) := [[(0, .aload_n 0, 1, 0, 0, 0, 0), (1, .iconst 0, 1, 0, 0, 0, 0), (2, .putfield 83, 3, 7, 0, 1125, 0), (5, .aload_n 0, 1, 0, 0, 0, 0), (6, .iload_n 1, 1, 0, 0, 0, 0), (7, .iload_n 2, 1, 0, 0, 0, 0), (8, .invokevirtual 335, 3, 63, 0, 1496, 0), (11, .ifCond .ne 6, 3, 0, 0, 0, 0), (14, .bipush (-2), 2, 0, 0, 0, 0), (16, .ireturn, 1, 0, 0, 0, 0)]]
def zT63 : List (List zE) := [[(0, .aload_n 0, 1, 0, 0, 0, 0), (1, .iload_n 1, 1, 0, 0, 0, 0), (2, .i2l, 1, 0, 0, 0, 0), (3, .invokevirtual 254, 3, 43, 0, 1399, 0), (6, .ifCond .eq 16, 3, 0, 0, 0, 0), (22, .iconst 0, 1, 0, 0, 0, 0), (23, .ireturn, 1, 0, 0, 0, 0)]]
def zT64 : List (List zE) := [[(0, .aload_n 0, 1, 0, 0, 0, 0), (1, .getfield 19, 3, 6, 1, 395, 0), (4, .iload_n 1, 1, 0, 0, 0, 0), (5, .invokevirtual 133, 3, 58, 0, 675, 0), (8, .ifCond .eq 14, 3, 0, 0, 0, 0), (22, .bipush (-2), 2, 0, 0, 0, 0), (24, .ireturn, 1, 0, 0, 0, 0)]]
def zT65 : List (List zE) := [[(0, .aload_n 0, 1, 0, 0, 0, 0), (1, .iconst 0, 1, 0, 0, 0, 0), (2, .putfield 83, 3, 7, 0, 1125, 0), (5, .aload_n 0, 1, 0, 0, 0, 0), (6, .iload_n 1, 1, 0, 0, 0, 0), (7, .i2l, 1, 0, 0, 0, 0), (8, .invokevirtual 257, 3, 60, 0, 1453, 0), (11, .ifCond .ne 6, 3, 0, 0, 0, 0), (14, .bipush (-2), 2, 0, 0, 0, 0), (16, .ireturn, 1, 0, 0, 0, 0)]]
def zT66 : List (List zE) := [[(0, .aload_n 0, 1, 0, 0, 0, 0), (1, .getfield 19, 3, 6, 1, 395, 0), (4, .iload_n 1, 1, 0, 0, 0, 0), (5, .invokevirtual 133, 3, 58, 0, 675, 0), (8, .ifCond .ne 6, 3, 0, 0, 0, 0), (11, .bipush (-2), 2, 0, 0, 0, 0), (13, .ireturn, 1, 0, 0, 0, 0)]]
def zT67 : List (List zE) := [[(0, .aload_n 0, 1, 0, 0, 0, 0), (1, .iconst 0, 1, 0, 0, 0, 0), (2, .putfield 83, 3, 7, 0, 1125, 0), (5, .aload_n 0, 1, 0, 0, 0, 0), (6, .iload_n 1, 1, 0, 0, 0, 0), (7, .i2l, 1, 0, 0, 0, 0), (8, .invokevirtual 257, 3, 60, 0, 1453, 0), (11, .ifCond .ne 6, 3, 0, 0, 0, 0), (14, .bipush (-2), 2, 0, 0, 0, 0), (16, .ireturn, 1, 0, 0, 0, 0)]]
def zT68 : List (List zE) := [[(0, .aload_n 0, 1, 0, 0, 0, 0), (1, .getfield 19, 3, 6, 1, 395, 0), (4, .iload_n 1, 1, 0, 0, 0, 0), (5, .invokevirtual 133, 3, 58, 0, 675, 0), (8, .ifCond .eq 14, 3, 0, 0, 0, 0), (22, .bipush (-2), 2, 0, 0, 0, 0), (24, .ireturn, 1, 0, 0, 0, 0)]]
def zT69 : List (List zE) := [[(0, .aload_n 0, 1, 0, 0, 0, 0), (1, .iconst 0, 1, 0, 0, 0, 0), (2, .putfield 83, 3, 7, 0, 1125, 0), (5, .aload_n 0, 1, 0, 0, 0, 0), (6, .iload_n 1, 1, 0, 0, 0, 0), (7, .i2l, 1, 0, 0, 0, 0), (8, .invokevirtual 257, 3, 60, 0, 1453, 0), (11, .ifCond .ne 6, 3, 0, 0, 0, 0), (14, .bipush (-2), 2, 0, 0, 0, 0), (16, .ireturn, 1, 0, 0, 0, 0)]]
def zT70 : List (List zE) := [[(0, .aload_n 0, 1, 0, 0, 0, 0), (1, .getfield 19, 3, 6, 1, 395, 0), (4, .iload_n 1, 1, 0, 0, 0, 0), (5, .invokevirtual 152, 3, 71, 0, 706, 0), (8, .ifCond .eq 15, 3, 0, 0, 0, 0), (23, .bipush (-2), 2, 0, 0, 0, 0), (25, .ireturn, 1, 0, 0, 0, 0)]]
def zT71 : List (List zE) := [[(0, .aload_n 0, 1, 0, 0, 0, 0), (1, .invokevirtual 43, 3, 52, 0, 679, 0), (4, .ifCond .eq 19, 3, 0, 0, 0, 0), (23, .iconst 0, 1, 0, 0, 0, 0), (24, .ireturn, 1, 0, 0, 0, 0)]]
def zT72 : List (List zE) := [[(0, .aload_n 0, 1, 0, 0, 0, 0), (1, .iconst 0, 1, 0, 0, 0, 0), (2, .putfield 83, 3, 7, 0, 1125, 0), (5, .aload_n 0, 1, 0, 0, 0, 0), (6, .iload_n 1, 1, 0, 0, 0, 0), (7, .invokevirtual 341, 3, 73, 0, 1525, 0), (10, .ifCond .ne 6, 3, 0, 0, 0, 0), (13, .bipush (-2), 2, 0, 0, 0, 0), (15, .ireturn, 1, 0, 0, 0, 0)]]
def zT73 : List (List zE) := [[(0, .iload_n 1, 1, 0, 0, 0, 0), (1, .i2l, 1, 0, 0, 0, 0), (2, .lconst 0, 1, 0, 0, 0, 0), (3, .aload_n 0, 1, 0, 0, 0, 0), (4, .invokevirtual 251, 3, 74, 0, 1456, 0), (7, .i2l, 1, 0, 0, 0, 0), (8, .lconst 1, 1, 0, 0, 0, 0), (9, .lsub, 1, 0, 0, 0, 0), (10, .invokestatic 88, 3, 14, 1, 1275, 0), (13, .ireturn, 1, 0, 0, 0, 0)]]
def zT74 : List (List zE) := [[(0, .aload_n 0, 1, 0, 0, 0, 0), (1, .getfield 34, 3, 7, 17, 1142, 0), (4, .iconst 0, 1, 0, 0, 0, 0), (5, .iaload, 1, 0, 0, 0, 0), (6, .ireturn, 1, 0, 0, 0, 0)]]
def zT75 : List (List zE) := [[(0, .aload_n 0, 1, 0, 0, 0, 0), (1, .getfield 19, 3, 6, 1, 395, 0), (4, .iload_n 1, 1, 0, 0, 0, 0), (5, .invokevirtual 100, 3, 41, 0, 631, 0), (8, .ifCond .eq 11, 3, 0, 0, 0, 0), (19, .bipush (-2), 2, 0, 0, 0, 0), (21, .ireturn, 1, 0, 0, 0, 0)]]
def zT76 : List (List zE) := [[(0, .aload_n 0, 1, 0, 0, 0, 0), (1, .iconst 0, 1, 0, 0, 0, 0), (2, .putfield 83, 3, 7, 0, 1125, 0), (5, .aload_n 0, 1, 0, 0, 0, 0), (6, .iload_n 1, 1, 0, 0, 0, 0), (7, .i2l, 1, 0, 0, 0, 0), (8, .invokevirtual 254, 3, 43, 0, 1399, 0), (11, .ifCond .ne 6, 3, 0, 0, 0, 0), (14, .bipush (-2), 2, 0, 0, 0, 0), (16, .ireturn, 1, 0, 0, 0, 0)]]
def zT77 : List (List zE) := [[(0, .aload_n 0, 1, 0, 0, 0, 0), (1, .getfield 19, 3, 6, 1, 395, 0), (4, .iload_n 1, 1, 0, 0, 0, 0), (5, .invokevirtual 100, 3, 41, 0, 631, 0), (8, .ifCond .eq 11, 3, 0, 0, 0, 0), (19, .bipush (-2), 2, 0, 0, 0, 0), (21, .ireturn, 1, 0, 0, 0, 0)]]
def zT78 : List (List zE) := [[(0, .aload_n 0, 1, 0, 0, 0, 0), (1, .iconst 0, 1, 0, 0, 0, 0), (2, .putfield 83, 3, 7, 0, 1125, 0), (5, .aload_n 0, 1, 0, 0, 0, 0), (6, .iload_n 1, 1, 0, 0, 0, 0), (7, .i2l, 1, 0, 0, 0, 0), (8, .invokevirtual 254, 3, 43, 0, 1399, 0), (11, .ifCond .ne 6, 3, 0, 0, 0, 0), (14, .bipush (-2), 2, 0, 0, 0, 0), (16, .ireturn, 1, 0, 0, 0, 0)]]
def zT79 : List (List zE) := [[(0, .aload_n 0, 1, 0, 0, 0, 0), (1, .getfield 19, 3, 6, 1, 395, 0), (4, .iload_n 1, 1, 0, 0, 0, 0), (5, .invokevirtual 100, 3, 41, 0, 631, 0), (8, .ifCond .ne 6, 3, 0, 0, 0, 0), (11, .bipush (-2), 2, 0, 0, 0, 0), (13, .ireturn, 1, 0, 0, 0, 0)]]
def zT80 : List (List zE) := [[(0, .aload_n 0, 1, 0, 0, 0, 0), (1, .iconst 0, 1, 0, 0, 0, 0), (2, .putfield 83, 3, 7, 0, 1125, 0), (5, .aload_n 0, 1, 0, 0, 0, 0), (6, .iload_n 1, 1, 0, 0, 0, 0), (7, .i2l, 1, 0, 0, 0, 0), (8, .invokevirtual 254, 3, 43, 0, 1399, 0), (11, .ifCond .ne 6, 3, 0, 0, 0, 0), (14, .bipush (-2), 2, 0, 0, 0, 0), (16, .ireturn, 1, 0, 0, 0, 0)]]
def zT81 : List (List zE) := [[(0, .aload_n 0, 1, 0, 0, 0, 0), (1, .getfield 19, 3, 6, 1, 395, 0), (4, .invokevirtual 120, 3, 52, 0, 653, 0), (7, .ifCond .eq 11, 3, 0, 0, 0, 0), (18, .bipush (-2), 2, 0, 0, 0, 0), (20, .ireturn, 1, 0, 0, 0, 0)]]
def zT82 : List (List zE) := [[(0, .aload_n 0, 1, 0, 0, 0, 0), (1, .iconst 0, 1, 0, 0, 0, 0), (2, .putfield 83, 3, 7, 0, 1125, 0), (5, .aload_n 0, 1, 0, 0, 0, 0), (6, .invokevirtual 248, 3, 54, 0, 1436, 0), (9, .ifCond .ne 6, 3, 0, 0, 0, 0), (12, .bipush (-2), 2, 0, 0, 0, 0), (14, .ireturn, 1, 0, 0, 0, 0)]]
def zT83 : List (List zE) := [[(0, .aload_n 0, 1, 0, 0, 0, 0), (1, .getfield 19, 3, 6, 1, 395, 0), (4, .invokevirtual 120, 3, 52, 0, 653, 0), (7, .ifCond .ne 6, 3, 0, 0, 0, 0), (10, .bipush (-2), 2, 0, 0, 0, 0), (12, .ireturn, 1, 0, 0, 0, 0)]]
def zT84 : List (List zE) := [[(0, .aload_n 0, 1, 0, 0, 0, 0), (1, .iconst 0, 1, 0, 0, 0, 0), (2, .putfield 83, 3, 7, 0, 1125, 0), (5, .aload_n 0, 1, 0, 0, 0, 0), (6, .invokevirtual 248, 3, 54, 0, 1436, 0), (9, .ifCond .ne 6, 3, 0, 0, 0, 0), (12, .bipush (-2), 2, 0, 0, 0, 0), (14, .ireturn, 1, 0, 0, 0, 0)]]
def zT85 : List (List zE) := [[(0, .aload_n 0, 1, 0, 0, 0, 0), (1, .getfield 19, 3, 6, 1, 395, 0), (4, .invokevirtual 120, 3, 52, 0, 653, 0), (7, .ifCond .ne 6, 3, 0, 0, 0, 0), (10, .bipush (-2), 2, 0, 0, 0, 0), (12, .ireturn, 1, 0, 0, 0, 0)]]
def zT86 : List (List zE) := [[(0, .aload_n 0, 1, 0, 0, 0, 0), (1, .iconst 0, 1, 0, 0, 0, 0), (2, .putfield 83, 3, 7, 0, 1125, 0), (5, .aload_n 0, 1, 0, 0, 0, 0), (6, .invokevirtual 248, 3, 54, 0, 1436, 0), (9, .ifCond .ne 6, 3, 0, 0, 0, 0), (12, .bipush (-2), 2, 0, 0, 0, 0), (14, .ireturn, 1, 0, 0, 0, 0)]]
def zT87 : List (List zE) := [[(0, .aload_n 0, 1, 0, 0, 0, 0), (1, .getfield 19, 3, 6, 1, 395, 0), (4, .invokevirtual 120, 3, 52, 0, 653, 0), (7, .ifCond .ne 6, 3, 0, 0, 0, 0), (10, .bipush (-2), 2, 0, 0, 0, 0), (12, .ireturn, 1, 0, 0, 0, 0)]]
def zT88 : List (List zE) := [[(0, .aload_n 0, 1, 0, 0, 0, 0), (1, .iconst 0, 1, 0, 0, 0, 0), (2, .putfield 83, 3, 7, 0, 1125, 0), (5, .aload_n 0, 1, 0, 0, 0, 0), (6, .invokevirtual 248, 3, 54, 0, 1436, 0), (9, .ifCond .ne 6, 3, 0, 0, 0, 0), (12, .bipush (-2), 2, 0, 0, 0, 0), (14, .ireturn, 1, 0, 0, 0, 0)]]
def zT89 : List (List zE) := [[(0, .aload_n 0, 1, 0, 0, 0, 0), (1, .getfield 19, 3, 6, 1, 395, 0), (4, .iload_n 1, 1, 0, 0, 0, 0), (5, .invokevirtual 100, 3, 41, 0, 631, 0), (8, .ifCond .eq 14, 3, 0, 0, 0, 0), (22, .bipush (-2), 2, 0, 0, 0, 0), (24, .ireturn, 1, 0, 0, 0, 0)]]
def zT90 : List (List zE) := [[(0, .aload_n 0, 1, 0, 0, 0, 0), (1, .iconst 0, 1, 0, 0, 0, 0), (2, .putfield 83, 3, 7, 0, 1125, 0), (5, .aload_n 0, 1, 0, 0, 0, 0), (6, .iload_n 1, 1, 0, 0, 0, 0), (7, .i2l, 1, 0, 0, 0, 0), (8, .invokevirtual 254, 3, 43, 0, 1399, 0), (11, .ifCond .ne 6, 3, 0, 0, 0, 0), (14, .bipush (-2), 2, 0, 0, 0, 0), (16, .ireturn, 1, 0, 0, 0, 0)]]
def zT91 : List (List zE) := [[(0, .aload_n 0, 1, 0, 0, 0, 0), (1, .getfield 19, 3, 6, 1, 395, 0), (4, .invokevirtual 120, 3, 52, 0, 653, 0), (7, .ifCond .eq 13, 3, 0, 0, 0, 0), (20, .bipush (-2), 2, 0, 0, 0, 0), (22, .ireturn, 1, 0, 0, 0, 0)]]
def zT92 : List (List zE) := [[(0, .aload_n 0, 1, 0, 0, 0, 0), (1, .iconst 0, 1, 0, 0, 0, 0), (2, .putfield 83, 3, 7, 0, 1125, 0), (5, .aload_n 0, 1, 0, 0, 0, 0), (6, .invokevirtual 248, 3, 54, 0, 1436, 0), (9, .ifCond .ne 6, 3, 0, 0, 0, 0), (12, .bipush (-2), 2, 0, 0, 0, 0), (14, .ireturn, 1, 0, 0, 0, 0)]]
def zT93 : List (List zE) := [[(0, .aload_n 0, 1, 0, 0, 0, 0), (1, .getfield 19, 3, 6, 1, 395, 0), (4, .invokevirtual 120, 3, 52, 0, 653, 0), (7, .ifCond .ne 6, 3, 0, 0, 0, 0), (10, .bipush (-2), 2, 0, 0, 0, 0), (12, .ireturn, 1, 0, 0, 0, 0)]]
def zT94 : List (List zE) := [[(0, .aload_n 0, 1, 0, 0, 0, 0), (1, .iconst 0, 1, 0, 0, 0, 0), (2, .putfield 83, 3, 7, 0, 1125, 0), (5, .aload_n 0, 1, 0, 0, 0, 0), (6, .invokevirtual 248, 3, 54, 0, 1436, 0), (9, .ifCond .ne 6, 3, 0, 0, 0, 0), (12, .bipush (-2), 2, 0, 0, 0, 0), (14, .ireturn, 1, 0, 0, 0, 0)]]
def zT95 : List (List zE) := [[(0, .aload_n 0, 1, 0, 0, 0, 0), (1, .getfield 19, 3, 6, 1, 395, 0), (4, .iload_n 1, 1, 0, 0, 0, 0), (5, .invokevirtual 100, 3, 41, 0, 631, 0), (8, .ifCond .eq 13, 3, 0, 0, 0, 0), (21, .bipush (-2), 2, 0, 0, 0, 0), (23, .ireturn, 1, 0, 0, 0, 0)]]
def zT96 : List (List zE) := [[(0, .aload_n 0, 1, 0, 0, 0, 0), (1, .iconst 0, 1, 0, 0, 0, 0), (2, .putfield 83, 3, 7, 0, 1125, 0), (5, .aload_n 0, 1, 0, 0, 0, 0), (6, .iload_n 1, 1, 0, 0, 0, 0), (7, .i2l, 1, 0, 0, 0, 0), (8, .invokevirtual 254, 3, 43, 0, 1399, 0), (11, .ifCond .eq 15, 3, 0, 0, 0, 0), (26, .bipush (-2), 2, 0, 0, 0, 0), (28, .ireturn, 1, 0, 0, 0, 0)]]
def zT97 : List (List zE) := [[(0, .aload_n 0, 1, 0, 0, 0, 0), (1, .getfield 19, 3, 6, 1, 395, 0), (4, .invokevirtual 120, 3, 52, 0, 653, 0), (7, .ifCond .ne 6, 3, 0, 0, 0, 0), (10, .bipush (-2), 2, 0, 0, 0, 0), (12, .ireturn, 1, 0, 0, 0, 0)]]
def zT98 : List (List zE) := [[(0, .aload_n 0, 1, 0, 0, 0, 0), (1, .iconst 0, 1, 0, 0, 0, 0), (2, .putfield 83, 3, 7, 0, 1125, 0), (5, .aload_n 0, 1, 0, 0, 0, 0), (6, .invokevirtual 248, 3, 54, 0, 1436, 0), (9, .ifCond .ne 6, 3, 0, 0, 0, 0), (12, .bipush (-2), 2, 0, 0, 0, 0), (14, .ireturn, 1, 0, 0, 0, 0)]]
def zT99 : List (List zE) := [[(0, .aload_n 0, 1, 0, 0, 0, 0), (1, .getfield 19, 3, 6, 1, 395, 0), (4, .iload_n 1, 1, 0, 0, 0, 0), (5, .invokevirtual 133, 3, 58, 0, 675, 0), (8, .ifCond .ne 6, 3, 0, 0, 0, 0), (11, .bipush (-2), 2, 0, 0, 0, 0), (13, .ireturn, 1, 0, 0, 0, 0)]]
def zT100 : List (List zE) := [[(0, .aload_n 0, 1, 0, 0, 0, 0), (1, .iconst 0, 1, 0, 0, 0, 0), (2, .putfield 83, 3, 7, 0, 1125, 0), (5, .aload_n 0, 1, 0, 0, 0, 0), (6, .iload_n 1, 1, 0, 0, 0, 0), (7, .i2l, 1, 0, 0, 0, 0), (8, .invokevirtual 257, 3, 60, 0, 1453, 0), (11, .ifCond .ne 6, 3, 0, 0, 0, 0), (14, .bipush (-2), 2, 0, 0, 0, 0), (16, .ireturn, 1, 0, 0, 0, 0)]]
def zT101 : List (List zE) := [[(0, .aload_n 0, 1, 0, 0, 0, 0), (1, .getfield 19, 3, 6, 1, 395, 0), (4, .iload_n 1, 1, 0, 0, 0, 0), (5, .invokevirtual 100, 3, 41, 0, 631, 0), (8, .ifCond .eq 14, 3, 0, 0, 0, 0), (22, .bipush (-2), 2, 0, 0, 0, 0), (24, .ireturn, 1, 0, 0, 0, 0)]]
def zT102 : List (List zE) := [[(0, .aload_n 0, 1, 0, 0, 0, 0), (1, .iconst 0, 1, 0, 0, 0, 0), (2, .putfield 83, 3, 7, 0, 1125, 0), (5, .aload_n 0, 1, 0, 0, 0, 0), (6, .iload_n 1, 1, 0, 0, 0, 0), (7, .iload_n 2, 1, 0, 0, 0, 0), (8, .invokevirtual 335, 3, 63, 0, 1496, 0), (11, .ifCond .ne 6, 3, 0, 0, 0, 0), (14, .bipush (-2), 2, 0, 0, 0, 0), (16, .ireturn, 1, 0, 0, 0, 0)]]
def zT103 : List (List zE) := [[(0, .aload_n 0, 1, 0, 0, 0, 0), (1, .getfield 19, 3, 6, 1, 395, 0), (4, .iload_n 1, 1, 0, 0, 0, 0), (5, .invokevirtual 133, 3, 58, 0, 675, 0), (8, .ifCond .ne 6, 3, 0, 0, 0, 0), (11, .bipush (-2), 2, 0, 0, 0, 0), (13, .ireturn, 1, 0, 0, 0, 0)]]
def zT104 : List (List zE) := [[(0, .aload_n 0, 1, 0, 0, 0, 0), (1, .iconst 0, 1, 0, 0, 0, 0), (2, .putfield 83, 3, 7, 0, 1125, 0), (5, .aload_n 0, 1, 0, 0, 0, 0), (6, .iload_n 1, 1, 0, 0, 0, 0), (7, .i2l, 1, 0, 0, 0, 0), (8, .invokevirtual 257, 3, 60, 0, 1453, 0), (11, .ifCond .ne 6, 3, 0, 0, 0, 0), (14, .bipush (-2), 2, 0, 0, 0, 0), (16, .ireturn, 1, 0, 0, 0, 0)]]
def zT105 : List (List zE) := [[(0, .aload_n 0, 1, 0, 0, 0, 0), (1, .getfield 19, 3, 6, 1, 395, 0), (4, .iload_n 1, 1, 0, 0, 0, 0), (5, .invokevirtual 133, 3, 58, 0, 675, 0), (8, .ifCond .ne 6, 3, 0, 0, 0, 0), (11, .bipush (-2), 2, 0, 0, 0, 0), (13, .ireturn, 1, 0, 0, 0, 0)]]
def zT106 : List (List zE) := [[(0, .aload_n 0, 1, 0, 0, 0, 0), (1, .iconst 0, 1, 0, 0, 0, 0), (2, .putfield 83, 3, 7, 0, 1125, 0), (5, .aload_n 0, 1, 0, 0, 0, 0), (6, .iload_n 1, 1, 0, 0, 0, 0), (7, .i2l, 1, 0, 0, 0, 0), (8, .invokevirtual 257, 3, 60, 0, 1453, 0), (11, .ifCond .ne 6, 3, 0, 0, 0, 0), (14, .bipush (-2), 2, 0, 0, 0, 0), (16, .ireturn, 1, 0, 0, 0, 0)]]
def zT107 : List (List zE) := [[(0, .aload_n 0, 1, 0, 0, 0, 0), (1, .getfield 19, 3, 6, 1, 395, 0), (4, .iload_n 1, 1, 0, 0, 0, 0), (5, .invokevirtual 133, 3, 58, 0, 675, 0), (8, .ifCond .eq 18, 3, 0, 0, 0, 0), (26, .bipush (-2), 2, 0, 0, 0, 0), (28, .ireturn, 1, 0, 0, 0, 0)]]
def zT108 : List (List zE) := [[(0, .aload_n 0, 1, 0, 0, 0, 0), (1, .iconst 0, 1, 0, 0, 0, 0), (2, .putfield 83, 3, 7, 0, 1125, 0), (5, .aload_n 0, 1, 0, 0, 0, 0), (6, .iload_n 1, 1, 0, 0, 0, 0), (7, .i2l, 1, 0, 0, 0, 0), (8, .invokevirtual 257, 3, 60, 0, 1453, 0), (11, .ifCond .eq 15, 3, 0, 0, 0, 0), (26, .bipush (-2), 2, 0, 0, 0, 0), (28, .ireturn, 1, 0, 0, 0, 0)]]
def zT109 : List (List zE) := [[(0, .aload_n 0, 1, 0, 0, 0, 0), (1, .getfield 19, 3, 6, 1, 395, 0), (4, .invokevirtual 120, 3, 52, 0, 653, 0), (7, .ifCond .ne 6, 3, 0, 0, 0, 0), (10, .bipush (-2), 2, 0, 0, 0, 0), (12, .ireturn, 1, 0, 0, 0, 0)]]
def zT110 : List (List zE) := [[(0, .aload_n 0, 1, 0, 0, 0, 0), (1, .iconst 0, 1, 0, 0, 0, 0), (2, .putfield 83, 3, 7, 0, 1125, 0), (5, .aload_n 0, 1, 0, 0, 0, 0), (6, .invokevirtual 248, 3, 54, 0, 1436, 0), (9, .ifCond .ne 6, 3, 0, 0, 0, 0), (12, .bipush (-2), 2, 0, 0, 0, 0), (14, .ireturn, 1, 0, 0, 0, 0)]]
def zT111 : List (List zE) := [[(0, .aload_n 0, 1, 0, 0, 0, 0), (1, .getfield 19, 3, 6, 1, 395, 0), (4, .invokevirtual 120, 3, 52, 0, 653, 0), (7, .ifCond .ne 6, 3, 0, 0, 0, 0), (10, .bipush (-2), 2, 0, 0, 0, 0), (12, .ireturn, 1, 0, 0, 0, 0)]]
def zT112 : List (List zE) := [[(0, .aload_n 0, 1, 0, 0, 0, 0), (1, .iconst 0, 1, 0, 0, 0, 0), (2, .putfield 83, 3, 7, 0, 1125, 0), (5, .aload_n 0, 1, 0, 0, 0, 0), (6, .invokevirtual 248, 3, 54, 0, 1436, 0), (9, .ifCond .ne 6, 3, 0, 0, 0, 0), (12, .bipush (-2), 2, 0, 0, 0, 0), (14, .ireturn, 1, 0, 0, 0, 0)]]
def zT113 : List (List zE) := [[(0, .aload_n 0, 1, 0, 0, 0, 0), (1, .getfield 19, 3, 6, 1, 395, 0), (4, .invokevirtual 120, 3, 52, 0, 653, 0), (7, .ifCond .ne 6, 3, 0, 0, 0, 0), (10, .bipush (-2), 2, 0, 0, 0, 0), (12, .ireturn, 1, 0, 0, 0, 0)]]
def zT114 : List (List zE) := [[(0, .aload_n 0, 1, 0, 0, 0, 0), (1, .iconst 0, 1, 0, 0, 0, 0), (2, .putfield 83, 3, 7, 0, 1125, 0), (5, .aload_n 0, 1, 0, 0, 0, 0), (6, .invokevirtual 248, 3, 54, 0, 1436, 0), (9, .ifCond .ne 6, 3, 0, 0, 0, 0), (12, .bipush (-2), 2, 0, 0, 0, 0), (14, .ireturn, 1, 0, 0, 0, 0)]]
def zT115 : List (List zE) := [[(0, .aload_n 0, 1, 0, 0, 0, 0), (1, .getfield 19, 3, 6, 1, 395, 0), (4, .iload_n 1, 1, 0, 0, 0, 0), (5, .invokevirtual 100, 3, 41, 0, 631, 0), (8, .ifCond .ne 6, 3, 0, 0, 0, 0), (11, .bipush (-2), 2, 0, 0, 0, 0), (13, .ireturn, 1, 0, 0, 0, 0)]]
def zT116 : List (List zE) := [[(0, .aload_n 0, 1, 0, 0, 0, 0), (1, .iconst 0, 1, 0, 0, 0, 0), (2, .putfield 83, 3, 7, 0, 1125, 0), (5, .aload_n 0, 1, 0, 0, 0, 0), (6, .iload_n 1, 1, 0, 0, 0, 0), (7, .i2l, 1, 0, 0, 0, 0), (8, .invokevirtual 254, 3, 43, 0, 1399, 0), (11, .ifCond .ne 6, 3, 0, 0, 0, 0), (14, .bipush (-2), 2, 0, 0, 0, 0), (16, .ireturn, 1, 0, 0, 0, 0)]]
def zT117 : List (List zE) := [[(0, .aload_n 0, 1, 0, 0, 0, 0), (1, .getfield 19, 3, 6, 1, 395, 0), (4, .iload_n 1, 1, 0, 0, 0, 0), (5, .invokevirtual 100, 3, 41, 0, 631, 0), (8, .ifCond .ne 6, 3, 0, 0, 0, 0), (11, .bipush (-2), 2, 0, 0, 0, 0), (13, .ireturn, 1, 0, 0, 0, 0)]]
def zT118 : List (List zE) := [[(0, .aload_n 0, 1, 0, 0, 0, 0), (1, .iconst 0, 1, 0, 0, 0, 0), (2, .putfield 83, 3, 7, 0, 1125, 0), (5, .aload_n 0, 1, 0, 0, 0, 0), (6, .iload_n 1, 1, 0, 0, 0, 0), (7, .i2l, 1, 0, 0, 0, 0), (8, .invokevirtual 254, 3, 43, 0, 1399, 0), (11, .ifCond .ne 6, 3, 0, 0, 0, 0), (14, .bipush (-2), 2, 0, 0, 0, 0), (16, .ireturn, 1, 0, 0, 0, 0)]]
def zT119 : List (List zE) := [[(0, .aload_n 0, 1, 0, 0, 0, 0), (1, .getfield 19, 3, 6, 1, 395, 0), (4, .iload_n 1, 1, 0, 0, 0, 0), (5, .invokevirtual 100, 3, 41, 0, 631, 0), (8, .ifCond .ne 6, 3, 0, 0, 0, 0), (11, .bipush (-2), 2, 0, 0, 0, 0), (13, .ireturn, 1, 0, 0, 0, 0)]]
def zT120 : List (List zE) := [[(0, .aload_n 0, 1, 0, 0, 0, 0), (1, .iconst 0, 1, 0, 0, 0, 0), (2, .putfield 83, 3, 7, 0, 1125, 0), (5, .aload_n 0, 1, 0, 0, 0, 0), (6, .iload_n 1, 1, 0, 0, 0, 0), (7, .i2l, 1, 0, 0, 0, 0), (8, .invokevirtual 254, 3, 43, 0, 1399, 0), (11, .ifCond .ne 6, 3, 0, 0, 0, 0), (14, .bipush (-2), 2, 0, 0, 0, 0), (16, .ireturn, 1, 0, 0, 0, 0)]]
def zT121 : List (List zE) := [[(0, .aload_n 0, 1, 0, 0, 0, 0), (1, .getfield 19, 3, 6, 1, 395, 0), (4, .iload_n 1, 1, 0, 0, 0, 0), (5, .invokevirtual 100, 3, 41, 0, 631, 0), (8, .ifCond .eq 11, 3, 0, 0, 0, 0), (19, .bipush (-2), 2, 0, 0, 0, 0), (21, .ireturn, 1, 0, 0, 0, 0)]]
def zT122 : List (List zE) := [[(0, .aload_n 0, 1, 0, 0, 0, 0), (1, .iconst 0, 1, 0, 0, 0, 0), (2, .putfield 83, 3, 7, 0, 1125, 0), (5, .aload_n 0, 1, 0, 0, 0, 0), (6, .iload_n 1, 1, 0, 0, 0, 0), (7, .i2l, 1, 0, 0, 0, 0), (8, .invokevirtual 254, 3, 43, 0, 1399, 0), (11, .ifCond .ne 6, 3, 0, 0, 0, 0), (14, .bipush (-2), 2, 0, 0, 0, 0), (16, .ireturn, 1, 0, 0, 0, 0)]]
def zT123 : List (List zE) := [[(0, .aload_n 0, 1, 0, 0, 0, 0), (1, .getfield 19, 3, 6, 1, 395, 0), (4, .iload_n 1, 1, 0, 0, 0, 0), (5, .invokevirtual 100, 3, 41, 0, 631, 0), (8, .ifCond .eq 11, 3, 0, 0, 0, 0), (19, .bipush (-2), 2, 0, 0, 0, 0), (21, .ireturn, 1, 0, 0, 0, 0)]]
def zT124 : List (List zE) := [[(0, .aload_n 0, 1, 0, 0, 0, 0), (1, .iconst 0, 1, 0, 0, 0, 0), (2, .putfield 83, 3, 7, 0, 1125, 0), (5, .aload_n 0, 1, 0, 0, 0, 0), (6, .iload_n 1, 1, 0, 0, 0, 0), (7, .i2l, 1, 0, 0, 0, 0), (8, .invokevirtual 254, 3, 43, 0, 1399, 0), (11, .ifCond .eq 11, 3, 0, 0, 0, 0), (22, .bipush (-2), 2, 0, 0, 0, 0), (24, .ireturn, 1, 0, 0, 0, 0)]]
def zT125 : List (List zE) := [[(0, .aload_n 0, 1, 0, 0, 0, 0), (1, .getfield 19, 3, 6, 1, 395, 0), (4, .invokevirtual 120, 3, 52, 0, 653, 0), (7, .ifCond .ne 6, 3, 0, 0, 0, 0), (10, .bipush (-2), 2, 0, 0, 0, 0), (12, .ireturn, 1, 0, 0, 0, 0)]]
def zT126 : List (List zE) := [[(0, .aload_n 0, 1, 0, 0, 0, 0), (1, .iconst 0, 1, 0, 0, 0, 0), (2, .putfield 83, 3, 7, 0, 1125, 0), (5, .aload_n 0, 1, 0, 0, 0, 0), (6, .invokevirtual 248, 3, 54, 0, 1436, 0), (9, .ifCond .ne 6, 3, 0, 0, 0, 0), (12, .bipush (-2), 2, 0, 0, 0, 0), (14, .ireturn, 1, 0, 0, 0, 0)]]
def zT127 : List (List zE) := [[(0, .aload_n 0, 1, 0, 0, 0, 0), (1, .getfield 19, 3, 6, 1, 395, 0), (4, .invokevirtual 120, 3, 52, 0, 653, 0), (7, .ifCond .ne 6, 3, 0, 0, 0, 0), (10, .bipush (-2), 2, 0, 0, 0, 0), (12, .ireturn, 1, 0, 0, 0, 0)]]
def zT128 : List (List zE) := [[(0, .aload_n 0, 1, 0, 0, 0, 0), (1, .iconst 0, 1, 0, 0, 0, 0), (2, .putfield 83, 3, 7, 0, 1125, 0), (5, .aload_n 0, 1, 0, 0, 0, 0), (6, .invokevirtual 248, 3, 54, 0, 1436, 0), (9, .ifCond .ne 6, 3, 0, 0, 0, 0), (12, .bipush (-2), 2, 0, 0, 0, 0), (14, .ireturn, 1, 0, 0, 0, 0)]]
def zT129 : List (List zE) := [[(0, .aload_n 0, 1, 0, 0, 0, 0), (1, .getfield 19, 3, 6, 1, 395, 0), (4, .invokevirtual 120, 3, 52, 0, 653, 0), (7, .ifCond .ne 6, 3, 0, 0, 0, 0), (10, .bipush (-2), 2, 0, 0, 0, 0), (12, .ireturn, 1, 0, 0, 0, 0)]]
def zT130 : List (List zE) := [[(0, .aload_n 0, 1, 0, 0, 0, 0), (1, .iconst 0, 1, 0, 0, 0, 0), (2, .putfield 83, 3, 7, 0, 1125, 0), (5, .aload_n 0, 1, 0, 0, 0, 0), (6, .invokevirtual 248, 3, 54, 0, 1436, 0), (9, .ifCond .ne 6, 3, 0, 0, 0, 0), (12, .bipush (-2), 2, 0, 0, 0, 0), (14, .ireturn, 1, 0, 0, 0, 0)]]
def zT131 : List (List zE) := [[(0, .aload_n 0, 1, 0, 0, 0, 0), (1, .iload_n 1, 1, 0, 0, 0, 0), (2, .invokevirtual 212, 3, 132, 0, 865, 0), (5, .ifCond .ne 6, 3, 0, 0, 0, 0), (8, .bipush (-2), 2, 0, 0, 0, 0), (10, .ireturn, 1, 0, 0, 0, 0)]]
def zT132 : List (List zE) := [[(0, .aload_n 0, 1, 0, 0, 0, 0), (1, .getfield 19, 3, 6, 1, 395, 0), (4, .invokevirtual 120, 3, 52, 0, 653, 0), (7, .ifCond .eq 28, 3, 0, 0, 0, 0)],
  [(35, .iconst 0, 1, 0, 0, 0, 0), (36, .ireturn, 1, 0, 0, 0, 0)]]
def zT133 : List (List zE) := [[(0, .aload_n 0, 1, 0, 0, 0, 0), (1, .iconst 0, 1, 0, 0, 0, 0), (2, .putfield 83, 3, 7, 0, 1125, 0), (5, .aload_n 0, 1, 0, 0, 0, 0), (6, .iload_n 1, 1, 0, 0, 0, 0), (7, .invokevirtual 384, 3, 134, 0, 1663, 0), (10, .ifCond .ne 6, 3, 0, 0, 0, 0), (13, .bipush (-2), 2, 0, 0, 0, 0), (15, .ireturn, 1, 0, 0, 0, 0)]]
def zT134 : List (List zE) := [[(0, .aload_n 0, 1, 0, 0, 0, 0), (1, .invokevirtual 248, 3, 54, 0, 1436, 0), (4, .ifCond .eq 25, 3, 0, 0, 0, 0), (29, .iconst 0, 1, 0, 0, 0, 0), (30, .ireturn, 1, 0, 0, 0, 0)]]
def zT135 : List (List zE) := [[(0, .aload_n 0, 1, 0, 0, 0, 0), (1, .iload_n 1, 1, 0, 0, 0, 0), (2, .invokevirtual 212, 3, 132, 0, 865, 0), (5, .ifCond .eq 12, 3, 0, 0, 0, 0), (17, .bipush (-2), 2, 0, 0, 0, 0), (19, .ireturn, 1, 0, 0, 0, 0)]]
def zT136 : List (List zE) := [[(0, .aload_n 0, 1, 0, 0, 0, 0), (1, .iconst 0, 1, 0, 0, 0, 0), (2, .putfield 83, 3, 7, 0, 1125, 0), (5, .aload_n 0, 1, 0, 0, 0, 0), (6, .iload_n 1, 1, 0, 0, 0, 0), (7, .invokevirtual 384, 3, 134, 0, 1663, 0), (10, .ifCond .eq 14, 3, 0, 0, 0, 0), (24, .bipush (-2), 2, 0, 0, 0, 0), (26, .ireturn, 1, 0, 0, 0, 0)]]
def zT137 : List (List zE) := [[(0, .aload_n 0, 1, 0, 0, 0, 0), (1, .iload_n 1, 1, 0, 0, 0, 0), (2, .invokevirtual 212, 3, 132, 0, 865, 0), (5, .ifCond .ne 6, 3, 0, 0, 0, 0), (8, .bipush (-2), 2, 0, 0, 0, 0), (10, .ireturn, 1, 0, 0, 0, 0)]]
def zT138 : List (List zE) := [[(0, .aload_n 0, 1, 0, 0, 0, 0), (1, .iconst 0, 1, 0, 0, 0, 0), (2, .putfield 83, 3, 7, 0, 1125, 0), (5, .aload_n 0, 1, 0, 0, 0, 0), (6, .iload_n 1, 1, 0, 0, 0, 0), (7, .invokevirtual 384, 3, 134, 0, 1663, 0), (10, .ifCond .ne 6, 3, 0, 0, 0, 0), (13, .bipush (-2), 2, 0, 0, 0, 0), (15, .ireturn, 1, 0, 0, 0, 0)]]
def zT139 : List (List zE) := [[(0, .aload_n 0, 1, 0, 0, 0, 0), (1, .iload_n 1, 1, 0, 0, 0, 0), (2, .iload_n 2, 1, 0, 0, 0, 0), (3, .invokevirtual 227, 3, 140, 0, 901, 0), (6, .istore_n 3, 1, 0, 0, 0, 0), (7, .iload_n 3, 1, 0, 0, 0, 0), (8, .ifCond .eq 7, 3, 0, 0, 0, 0), (11, .iload_n 3, 1, 0, 0, 0, 0), (12, .goto 10, 3, 0, 0, 0, 0), (22, .ireturn, 1, 0, 0, 0, 0)]]
def zT140 : List (List zE) := [[(0, .aload_n 0, 1, 0, 0, 0, 0), (1, .getfield 19, 3, 6, 1, 395, 0), (4, .iload_n 2, 1, 0, 0, 0, 0), (5, .invokevirtual 100, 3, 41, 0, 631, 0), (8, .ifCond .eq 11, 3, 0, 0, 0, 0), (19, .bipush (-2), 2, 0, 0, 0, 0), (21, .istore_n 3, 1, 0, 0, 0, 0), (22, .iload_n 3, 1, 0, 0, 0, 0), (23, .ifCond .eq 5, 3, 0, 0, 0, 0), (26, .iload_n 3, 1, 0, 0, 0, 0), (27, .ireturn, 1, 0, 0, 0, 0)]]
def zT141 : List (List zE) := [[(0, .aload_n 0, 1, 0, 0, 0, 0), (1, .iconst 0, 1, 0, 0, 0, 0), (2, .putfield 83, 3, 7, 0, 1125, 0), (5, .aload_n 0, 1, 0, 0, 0, 0), (6, .iload_n 1, 1, 0, 0, 0, 0), (7, .aload_n 0, 1, 0, 0, 0, 0), (8, .iload_n 2, 1, 0, 0, 0, 0), (9, .i2l, 1, 0, 0, 0, 0), (10, .invokevirtual 254, 3, 43, 0, 1399, 0), (13, .invokevirtual 408, 3, 142, 0, 1684, 0), (16, .istore_n 3, 1, 0, 0, 0, 0), (17, .iload_n 3, 1, 0, 0, 0, 0), (18, .ifCond .eq 5, 3, 0, 0, 0, 0), (21, .iload_n 3, 1, 0, 0, 0, 0), (22, .ireturn, 1, 0, 0, 0, 0)]]
def zT142 : List (List zE) := [[(0, .iload_n 1, 1, 0, 0, 0, 0), (1, .invokestatic 92, 3, 143, 1, 1271, 0), (4, .ifCond .eq 14, 3, 0, 0, 0, 0), (7, .aload_n 0, 1, 0, 0, 0, 0), (8, .invokevirtual 248, 3, 54, 0, 1436, 0), (11, .ifCond .eq 7, 3, 0, 0, 0, 0), (18, .bipush (-2), 2, 0, 0, 0, 0), (20, .ireturn, 1, 0, 0, 0, 0)]]
def zT143 : List (List zE) := [[(0, .iload_n 0, 1, 0, 0, 0, 0), (1, .i2l, 1, 0, 0, 0, 0), (2, .lconst 0, 1, 0, 0, 0, 0), (3, .ldc2_w 86, 3, 0, 0, 1274, 3), (6, .invokestatic 88, 3, 14, 1, 1275, 0), (9, .ireturn, 1, 0, 0, 0, 0)]]
def zT144 : List (List zE) := [[(0, .aload_n 0, 1, 0, 0, 0, 0), (1, .iload_n 1, 1, 0, 0, 0, 0), (2, .iload_n 2, 1, 0, 0, 0, 0), (3, .invokevirtual 227, 3, 140, 0, 901, 0), (6, .istore_n 3, 1, 0, 0, 0, 0), (7, .iload_n 3, 1, 0, 0, 0, 0), (8, .ifCond .eq 7, 3, 0, 0, 0, 0), (11, .iload_n 3, 1, 0, 0, 0, 0), (12, .goto 10, 3, 0, 0, 0, 0), (22, .ireturn, 1, 0, 0, 0, 0)]]
def zT145 : List (List zE) := [[(0, .aload_n 0, 1, 0, 0, 0, 0), (1, .iconst 0, 1, 0, 0, 0, 0), (2, .putfield 83, 3, 7, 0, 1125, 0), (5, .aload_n 0, 1, 0, 0, 0, 0), (6, .iload_n 1, 1, 0, 0, 0, 0), (7, .aload_n 0, 1, 0, 0, 0, 0), (8, .iload_n 2, 1, 0, 0, 0, 0), (9, .i2l, 1, 0, 0, 0, 0), (10, .invokevirtual 254, 3, 43, 0, 1399, 0), (13, .invokevirtual 408, 3, 142, 0, 1684, 0), (16, .istore_n 3, 1, 0, 0, 0, 0), (17, .iload_n 3, 1, 0, 0, 0, 0), (18, .ifCond .eq 5, 3, 0, 0, 0, 0), (21, .iload_n 3, 1, 0, 0, 0, 0), (22, .ireturn, 1, 0, 0, 0, 0)]]
def zT146 : List (List zE) := [[(0, .aload_n 0, 1, 0, 0, 0, 0), (1, .iload_n 1, 1, 0, 0, 0, 0), (2, .iload_n 2, 1, 0, 0, 0, 0), (3, .invokevirtual 227, 3, 140, 0, 901, 0), (6, .istore_n 3, 1, 0, 0, 0, 0), (7, .iload_n 3, 1, 0, 0, 0, 0), (8, .ifCond .eq 7, 3, 0, 0, 0, 0), (11, .iload_n 3, 1, 0, 0, 0, 0), (12, .goto 10, 3, 0, 0, 0, 0), (22, .ireturn, 1, 0, 0, 0, 0)]]
def zT147 : List (List zE) := [[(0, .aload_n 0, 1, 0, 0, 0, 0), (1, .iconst 0, 1, 0, 0, 0, 0), (2, .putfield 83, 3, 7, 0, 1125, 0), (5, .aload_n 0, 1, 0, 0, 0, 0), (6, .iload_n 1, 1, 0, 0, 0, 0), (7, .aload_n 0, 1, 0, 0, 0, 0), (8, .iload_n 2, 1, 0, 0, 0, 0), (9, .i2l, 1, 0, 0, 0, 0), (10, .invokevirtual 254, 3, 43, 0, 1399, 0), (13, .invokevirtual 408, 3, 142, 0, 1684, 0), (16, .istore_n 3, 1, 0, 0, 0, 0), (17, .iload_n 3, 1, 0, 0, 0, 0), (18, .ifCond .eq 5, 3, 0, 0, 0, 0), (21, .iload_n 3, 1, 0, 0, 0, 0), (22, .ireturn, 1, 0, 0, 0, 0)]]
def zT148 : List (List zE) := [[(0, .aload_n 0, 1, 0, 0, 0, 0), (1, .iload_n 1, 1, 0, 0, 0, 0), (2, .iload_n 2, 1, 0, 0, 0, 0), (3, .invokevirtual 227, 3, 140, 0, 901, 0), (6, .istore_n 3, 1, 0, 0, 0, 0), (7, .iload_n 3, 1, 0, 0, 0, 0), (8, .ifCond .eq 7, 3, 0, 0, 0, 0), (11, .iload_n 3, 1, 0, 0, 0, 0), (12, .goto 17, 3, 0, 0, 0, 0), (29, .ireturn, 1, 0, 0, 0, 0)]]
def zT149 : List (List zE) := [[(0, .aload_n 0, 1, 0, 0, 0, 0), (1, .iconst 0, 1, 0, 0, 0, 0), (2, .putfield 83, 3, 7, 0, 1125, 0), (5, .aload_n 0, 1, 0, 0, 0, 0), (6, .iload_n 1, 1, 0, 0, 0, 0), (7, .aload_n 0, 1, 0, 0, 0, 0), (8, .iload_n 2, 1, 0, 0, 0, 0), (9, .i2l, 1, 0, 0, 0, 0), (10, .invokevirtual 254, 3, 43, 0, 1399, 0), (13, .invokevirtual 408, 3, 142, 0, 1684, 0), (16, .istore_n 3, 1, 0, 0, 0, 0), (17, .iload_n 3, 1, 0, 0, 0, 0), (18, .ifCond .eq 5, 3, 0, 0, 0, 0), (21, .iload_n 3, 1, 0, 0, 0, 0), (22, .ireturn, 1, 0, 0, 0, 0)]]
def zT150 : List (List zE) := [[(0, .aload_n 0, 1, 0, 0, 0, 0), (1, .iload_n 1, 1, 0, 0, 0, 0), (2, .iload_n 2, 1, 0, 0, 0, 0), (3, .invokevirtual 227, 3, 140, 0, 901, 0), (6, .istore_n 3, 1, 0, 0, 0, 0), (7, .iload_n 3, 1, 0, 0, 0, 0), (8, .ifCond .eq 7, 3, 0, 0, 0, 0), (11, .iload_n 3, 1, 0, 0, 0, 0), (12, .goto 24, 3, 0, 0, 0, 0)],
  [(36, .ireturn, 1, 0, 0, 0, 0)]]
def zT151 : List (List zE) := [[(0, .aload_n 0, 1, 0, 0, 0, 0), (1, .iconst 0, 1, 0, 0, 0, 0), (2, .putfield 83, 3, 7, 0, 1125, 0), (5, .aload_n 0, 1, 0, 0, 0, 0), (6, .iload_n 1, 1, 0, 0, 0, 0), (7, .aload_n 0, 1, 0, 0, 0, 0), (8, .iload_n 2, 1, 0, 0, 0, 0), (9, .i2l, 1, 0, 0, 0, 0), (10, .invokevirtual 254, 3, 43, 0, 1399, 0), (13, .invokevirtual 408, 3, 142, 0, 1684, 0), (16, .istore_n 3, 1, 0, 0, 0, 0), (17, .iload_n 3, 1, 0, 0, 0, 0), (18, .ifCond .eq 5, 3, 0, 0, 0, 0), (21, .iload_n 3, 1, 0, 0, 0, 0), (22, .ireturn, 1, 0, 0, 0, 0)]]
def zT152 : List (List zE) := [[(0, .aload_n 0, 1, 0, 0, 0, 0), (1, .getfield 19, 3, 6, 1, 395, 0), (4, .invokevirtual 120, 3, 52, 0, 653, 0), (7, .ifCond .eq 11, 3, 0, 0, 0, 0), (18, .bipush (-2), 2, 0, 0, 0, 0), (20, .istore_n 2, 1, 0, 0, 0, 0), (21, .iload_n 2, 1, 0, 0, 0, 0), (22, .ifCond .eq 5, 3, 0, 0, 0, 0), (25, .iload_n 2, 1, 0, 0, 0, 0), (26, .ireturn, 1, 0, 0, 0, 0)]]
def zT153 : List (List zE) := [[(0, .aload_n 0, 1, 0, 0, 0, 0), (1, .iconst 0, 1, 0, 0, 0, 0), (2, .putfield 83, 3, 7, 0, 1125, 0), (5, .aload_n 0, 1, 0, 0, 0, 0), (6, .iload_n 1, 1, 0, 0, 0, 0), (7, .iconst 1, 1, 0, 0, 0, 0), (8, .invokevirtual 408, 3, 142, 0, 1684, 0), (11, .istore_n 2, 1, 0, 0, 0, 0), (12, .iload_n 2, 1, 0, 0, 0, 0), (13, .ifCond .eq 5, 3, 0, 0, 0, 0), (16, .iload_n 2, 1, 0, 0, 0, 0), (17, .ireturn, 1, 0, 0, 0, 0)]]
def zT154 : List (List zE) := [[(0, .aload_n 0, 1, 0, 0, 0, 0), (1, .getfield 19, 3, 6, 1, 395, 0), (4, .invokevirtual 120, 3, 52, 0, 653, 0), (7, .ifCond .eq 20, 3, 0, 0, 0, 0), (27, .bipush (-2), 2, 0, 0, 0, 0), (29, .ireturn, 1, 0, 0, 0, 0)]]
def zT155 : List (List zE) := [[(0, .aload_n 0, 1, 0, 0, 0, 0), (1, .iconst 0, 1, 0, 0, 0, 0), (2, .putfield 83, 3, 7, 0, 1125, 0), (5, .aload_n 0, 1, 0, 0, 0, 0), (6, .invokevirtual 248, 3, 54, 0, 1436, 0), (9, .ifCond .eq 23, 3, 0, 0, 0, 0)],
  [(32, .bipush (-2), 2, 0, 0, 0, 0), (34, .ireturn, 1, 0, 0, 0, 0)]]
def zT156 : List (List zE) := [[(0, .aload_n 0, 1, 0, 0, 0, 0), (1, .getfield 19, 3, 6, 1, 395, 0), (4, .invokevirtual 120, 3, 52, 0, 653, 0), (7, .ifCond .ne 6, 3, 0, 0, 0, 0), (10, .bipush (-2), 2, 0, 0, 0, 0), (12, .ireturn, 1, 0, 0, 0, 0)]]
def zT157 : List (List zE) := [[(0, .aload_n 0, 1, 0, 0, 0, 0), (1, .iconst 0, 1, 0, 0, 0, 0), (2, .putfield 83, 3, 7, 0, 1125, 0), (5, .aload_n 0, 1, 0, 0, 0, 0), (6, .invokevirtual 248, 3, 54, 0, 1436, 0), (9, .ifCond .ne 6, 3, 0, 0, 0, 0), (12, .bipush (-2), 2, 0, 0, 0, 0), (14, .ireturn, 1, 0, 0, 0, 0)]]
def zT158 : List (List zE) := [[(0, .aload_n 0, 1, 0, 0, 0, 0), (1, .getfield 19, 3, 6, 1, 395, 0), (4, .invokevirtual 120, 3, 52, 0, 653, 0), (7, .ifCond .eq 18, 3, 0, 0, 0, 0), (25, .bipush (-2), 2, 0, 0, 0, 0), (27, .ireturn, 1, 0, 0, 0, 0)]]
def zT159 : List (List zE) := [[(0, .aload_n 0, 1, 0, 0, 0, 0), (1, .iconst 0, 1, 0, 0, 0, 0), (2, .putfield 83, 3, 7, 0, 1125, 0), (5, .aload_n 0, 1, 0, 0, 0, 0), (6, .invokevirtual 248, 3, 54, 0, 1436, 0), (9, .ifCond .eq 29, 3, 0, 0, 0, 0)],
  [(38, .bipush (-2), 2, 0, 0, 0, 0), (40, .ireturn, 1, 0, 0, 0, 0)]]
def zT160 : List (List zE) := [[(0, .aload_n 0, 1, 0, 0, 0, 0), (1, .getfield 19, 3, 6, 1, 395, 0), (4, .iload_n 1, 1, 0, 0, 0, 0), (5, .invokevirtual 100, 3, 41, 0, 631, 0), (8, .ifCond .eq 12, 3, 0, 0, 0, 0), (20, .ldc_w 262, 3, 0, 0, 986, (-1000000)), (23, .ireturn, 1, 0, 0, 0, 0)]]
def zT161 : List (List zE) := [[(0, .aload_n 0, 1, 0, 0, 0, 0), (1, .iconst 0, 1, 0, 0, 0, 0), (2, .putfield 83, 3, 7, 0, 1125, 0), (5, .aload_n 0, 1, 0, 0, 0, 0), (6, .iload_n 1, 1, 0, 0, 0, 0), (7, .i2l, 1, 0, 0, 0, 0), (8, .invokevirtual 254, 3, 43, 0, 1399, 0), (11, .ifCond .eq 10, 3, 0, 0, 0, 0), (21, .ldc_w 428, 3, 0, 0, 1735, (-1000000)), (24, .ireturn, 1, 0, 0, 0, 0)]]
def zT162 : List (List zE) := [[(0, .aload_n 0, 1, 0, 0, 0, 0), (1, .iload_n 1, 1, 0, 0, 0, 0), (2, .iload_n 2, 1, 0, 0, 0, 0), (3, .invokevirtual 271, 3, 163, 0, 1000, 0), (6, .ifCond .ne 6, 3, 0, 0, 0, 0), (9, .bipush (-2), 2, 0, 0, 0, 0), (11, .ireturn, 1, 0, 0, 0, 0)]]
def zT163 : List (List zE) := [[(0, .aload_n 0, 1, 0, 0, 0, 0), (1, .getfield 19, 3, 6, 1, 395, 0), (4, .iload_n 1, 1, 0, 0, 0, 0), (5, .invokevirtual 100, 3, 41, 0, 631, 0), (8, .ifCond .eq 23, 3, 0, 0, 0, 0), (31, .iconst 0, 1, 0, 0, 0, 0)],
  [(32, .ireturn, 1, 0, 0, 0, 0)]]
def zT164 : List (List zE) := [[(0, .aload_n 0, 1, 0, 0, 0, 0), (1, .iconst 0, 1, 0, 0, 0, 0), (2, .putfield 83, 3, 7, 0, 1125, 0), (5, .aload_n 0, 1, 0, 0, 0, 0), (6, .iload_n 1, 1, 0, 0, 0, 0), (7, .iload_n 2, 1, 0, 0, 0, 0), (8, .invokevirtual 433, 3, 165, 0, 1749, 0), (11, .ifCond .ne 6, 3, 0, 0, 0, 0), (14, .bipush (-2), 2, 0, 0, 0, 0), (16, .ireturn, 1, 0, 0, 0, 0)]]
def zT165 : List (List zE) := [[(0, .aload_n 0, 1, 0, 0, 0, 0), (1, .iload_n 1, 1, 0, 0, 0, 0), (2, .i2l, 1, 0, 0, 0, 0), (3, .invokevirtual 254, 3, 43, 0, 1399, 0), (6, .ifCond .eq 21, 3, 0, 0, 0, 0), (27, .iconst 0, 1, 0, 0, 0, 0), (28, .ireturn, 1, 0, 0, 0, 0)]]
def zT166 : List (List zE) := [[(0, .iload_n 3, 1, 0, 0, 0, 0), (1, .ifCond .lt 23, 3, 0, 0, 0, 0), (4, .iload_n 3, 1, 0, 0, 0, 0), (5, .iconst 1, 1, 0, 0, 0, 0), (6, .if_icmp .gt 18, 3, 0, 0, 0, 0), (9, .iload 4, 2, 0, 0, 0, 0), (11, .ifCond .lt 13, 3, 0, 0, 0, 0), (14, .iload 4, 2, 0, 0, 0, 0), (16, .iconst 1, 1, 0, 0, 0, 0), (17, .if_icmp .gt 7, 3, 0, 0, 0, 0), (20, .iconst 1, 1, 0, 0, 0, 0), (21, .goto 4, 3, 0, 0, 0, 0), (24, .iconst 0, 1, 0, 0, 0, 0), (25, .istore 5, 2, 0, 0, 0, 0), (27, .aload_n 0, 1, 0, 0, 0, 0), (28, .iload_n 1, 1, 0, 0, 0, 0), (29, .iload_n 2, 1, 0, 0, 0, 0), (30, .invokevirtual 271, 3, 163, 0, 1000, 0)],
  [(33, .ifCond .eq 20, 3, 0, 0, 0, 0), (53, .sipush (-10000), 3, 0, 0, 0, 0), (56, .ireturn, 1, 0, 0, 0, 0)]]
def zT167 : List (List zE) := [[(0, .aload_n 0, 1, 0, 0, 0, 0), (1, .iconst 0, 1, 0, 0, 0, 0), (2, .putfield 83, 3, 7, 0, 1125, 0), (5, .aload_n 0, 1, 0, 0, 0, 0), (6, .iload_n 1, 1, 0, 0, 0, 0), (7, .iload_n 2, 1, 0, 0, 0, 0), (8, .invokevirtual 433, 3, 165, 0, 1749, 0), (11, .ifCond .eq 31, 3, 0, 0, 0, 0)],
  [(42, .sipush (-10000), 3, 0, 0, 0, 0), (45, .ireturn, 1, 0, 0, 0, 0)]]
def zT168 : List (List zE) := [[(0, .aload_n 0, 1, 0, 0, 0, 0), (1, .getfield 19, 3, 6, 1, 395, 0), (4, .iload_n 1, 1, 0, 0, 0, 0), (5, .invokevirtual 100, 3, 41, 0, 631, 0), (8, .ifCond .eq 20, 3, 0, 0, 0, 0), (28, .bipush (-2), 2, 0, 0, 0, 0), (30, .ireturn, 1, 0, 0, 0, 0)]]
def zT169 : List (List zE) := [[(0, .aload_n 0, 1, 0, 0, 0, 0), (1, .iconst 0, 1, 0, 0, 0, 0), (2, .putfield 83, 3, 7, 0, 1125, 0), (5, .aload_n 0, 1, 0, 0, 0, 0), (6, .iload_n 1, 1, 0, 0, 0, 0), (7, .i2l, 1, 0, 0, 0, 0), (8, .invokevirtual 254, 3, 43, 0, 1399, 0), (11, .ifCond .eq 39, 3, 0, 0, 0, 0)],
  [(50, .bipush (-2), 2, 0, 0, 0, 0), (52, .ireturn, 1, 0, 0, 0, 0)]]
def zT170 : List (List zE) := [[(0, .aload_n 0, 1, 0, 0, 0, 0), (1, .iload_n 1, 1, 0, 0, 0, 0), (2, .invokevirtual 282, 3, 171, 0, 1017, 0), (5, .ifCond .eq 12, 3, 0, 0, 0, 0), (17, .ldc2_w 292, 3, 0, 0, 1030, (-2)), (20, .lreturn, 1, 0, 0, 0, 0)]]
def zT171 : List (List zE) := [[(0, .aload_n 0, 1, 0, 0, 0, 0), (1, .getfield 19, 3, 6, 1, 395, 0), (4, .iload_n 1, 1, 0, 0, 0, 0), (5, .invokevirtual 133, 3, 58, 0, 675, 0), (8, .ifCond .eq 18, 3, 0, 0, 0, 0), (26, .iconst 0, 1, 0, 0, 0, 0), (27, .ireturn, 1, 0, 0, 0, 0)]]
def zT172 : List (List zE) := [[(0, .aload_n 0, 1, 0, 0, 0, 0), (1, .iconst 0, 1, 0, 0, 0, 0), (2, .putfield 83, 3, 7, 0, 1125, 0), (5, .aload_n 0, 1, 0, 0, 0, 0), (6, .iload_n 1, 1, 0, 0, 0, 0), (7, .invokevirtual 445, 3, 173, 0, 1763, 0), (10, .ifCond .eq 30, 3, 0, 0, 0, 0)],
  [(40, .ldc2_w 452, 3, 0, 0, 1777, (-2)), (43, .lreturn, 1, 0, 0, 0, 0)]]
def zT173 : List (List zE) := [[(0, .aload_n 0, 1, 0, 0, 0, 0), (1, .invokevirtual 248, 3, 54, 0, 1436, 0), (4, .ifCond .eq 26, 3, 0, 0, 0, 0), (30, .iconst 0, 1, 0, 0, 0, 0), (31, .ireturn, 1, 0, 0, 0, 0)]]
def zT174 : List (List zE) := [[(0, .aload_n 0, 1, 0, 0, 0, 0), (1, .getfield 19, 3, 6, 1, 395, 0), (4, .iload_n 1, 1, 0, 0, 0, 0), (5, .invokevirtual 100, 3, 41, 0, 631, 0), (8, .ifCond .eq 14, 3, 0, 0, 0, 0), (22, .bipush (-2), 2, 0, 0, 0, 0), (24, .ireturn, 1, 0, 0, 0, 0)]]
def zT175 : List (List zE) := [[(0, .aload_n 0, 1, 0, 0, 0, 0), (1, .iconst 0, 1, 0, 0, 0, 0), (2, .putfield 83, 3, 7, 0, 1125, 0), (5, .aload_n 0, 1, 0, 0, 0, 0), (6, .iload_n 1, 1, 0, 0, 0, 0), (7, .i2l, 1, 0, 0, 0, 0), (8, .invokevirtual 254, 3, 43, 0, 1399, 0), (11, .ifCond .eq 11, 3, 0, 0, 0, 0), (22, .bipush (-2), 2, 0, 0, 0, 0), (24, .ireturn, 1, 0, 0, 0, 0)]]
def zT176 : List (List zE) := [[(0, .aload_n 0, 1, 0, 0, 0, 0), (1, .getfield 19, 3, 6, 1, 395, 0), (4, .iload_n 1, 1, 0, 0, 0, 0), (5, .invokevirtual 100, 3, 41, 0, 631, 0), (8, .ifCond .eq 14, 3, 0, 0, 0, 0), (22, .bipush (-2), 2, 0, 0, 0, 0), (24, .ireturn, 1, 0, 0, 0, 0)]]
def zT177 : List (List zE) := [[(0, .aload_n 0, 1, 0, 0, 0, 0), (1, .iconst 0, 1, 0, 0, 0, 0), (2, .putfield 83, 3, 7, 0, 1125, 0), (5, .aload_n 0, 1, 0, 0, 0, 0), (6, .iload_n 1, 1, 0, 0, 0, 0), (7, .iload_n 2, 1, 0, 0, 0, 0), (8, .invokevirtual 335, 3, 63, 0, 1496, 0), (11, .ifCond .ne 6, 3, 0, 0, 0, 0), (14, .bipush (-2), 2, 0, 0, 0, 0), (16, .ireturn, 1, 0, 0, 0, 0)]]
def zT178 : List (List zE) := [[(0, .aload_n 0, 1, 0, 0, 0, 0), (1, .getfield 19, 3, 6, 1, 395, 0), (4, .invokevirtual 120, 3, 52, 0, 653, 0), (7, .ifCond .ne 6, 3, 0, 0, 0, 0), (10, .bipush (-2), 2, 0, 0, 0, 0), (12, .ireturn, 1, 0, 0, 0, 0)]]
def zT179 : List (List zE) := [[(0, .aload_n 0, 1, 0, 0, 0, 0), (1, .iconst 0, 1, 0, 0, 0, 0), (2, .putfield 83, 3, 7, 0, 1125, 0), (5, .aload_n 0, 1, 0, 0, 0, 0), (6, .invokevirtual 248, 3, 54, 0, 1436, 0), (9, .ifCond .ne 6, 3, 0, 0, 0, 0), (12, .bipush (-2), 2, 0, 0, 0, 0), (14, .ireturn, 1, 0, 0, 0, 0)]]
def zT180 : List (List zE) := [[(0, .aload_n 0, 1, 0, 0, 0, 0), (1, .getfield 19, 3, 6, 1, 395, 0), (4, .invokevirtual 120, 3, 52, 0, 653, 0), (7, .ifCond .ne 6, 3, 0, 0, 0, 0), (10, .bipush (-2), 2, 0, 0, 0, 0), (12, .ireturn, 1, 0, 0, 0, 0)]]
def zT181 : List (List zE) := [[(0, .aload_n 0, 1, 0, 0, 0, 0), (1, .iconst 0, 1, 0, 0, 0, 0), (2, .putfield 83, 3, 7, 0, 1125, 0), (5, .aload_n 0, 1, 0, 0, 0, 0), (6, .invokevirtual 248, 3, 54, 0, 1436, 0), (9, .ifCond .ne 6, 3, 0, 0, 0, 0), (12, .bipush (-2), 2, 0, 0, 0, 0), (14, .ireturn, 1, 0, 0, 0, 0)]]
def zT182 : List (List zE) := [[(0, .aload_n 0, 1, 0, 0, 0, 0), (1, .getfield 19, 3, 6, 1, 395, 0), (4, .invokevirtual 120, 3, 52, 0, 653, 0), (7, .ifCond .eq 19, 3, 0, 0, 0, 0), (26, .bipush (-2), 2, 0, 0, 0, 0), (28, .ireturn, 1, 0, 0, 0, 0)]]
def zT183 : List (List zE) := [[(0, .aload_n 0, 1, 0, 0, 0, 0), (1, .iconst 0, 1, 0, 0, 0, 0), (2, .putfield 83, 3, 7, 0, 1125, 0), (5, .aload_n 0, 1, 0, 0, 0, 0), (6, .invokevirtual 248, 3, 54, 0, 1436, 0), (9, .ifCond .eq 17, 3, 0, 0, 0, 0), (26, .bipush (-2), 2, 0, 0, 0, 0), (28, .ireturn, 1, 0, 0, 0, 0)]]
def zT184 : List (List zE) := [[(0, .aload_n 0, 1, 0, 0, 0, 0), (1, .getfield 19, 3, 6, 1, 395, 0), (4, .iload_n 3, 1, 0, 0, 0, 0), (5, .invokevirtual 100, 3, 41, 0, 631, 0), (8, .ifCond .eq 21, 3, 0, 0, 0, 0), (29, .bipush (-2), 2, 0, 0, 0, 0), (31, .ireturn, 1, 0, 0, 0, 0)]]
def zT185 : List (List zE) := [[(0, .aload_n 0, 1, 0, 0, 0, 0), (1, .iconst 0, 1, 0, 0, 0, 0), (2, .putfield 83, 3, 7, 0, 1125, 0), (5, .iload_n 1, 1, 0, 0, 0, 0), (6, .invokestatic 464, 3, 186, 1, 1782, 0), (9, .ifCond .eq 24, 3, 0, 0, 0, 0), (12, .iload_n 2, 1, 0, 0, 0, 0), (13, .i2l, 1, 0, 0, 0, 0), (14, .lconst 1, 1, 0, 0, 0, 0), (15, .ldc2_w 470, 3, 0, 0, 1797, 20), (18, .invokestatic 88, 3, 14, 1, 1275, 0), (21, .ifCond .eq 12, 3, 0, 0, 0, 0), (24, .aload_n 0, 1, 0, 0, 0, 0), (25, .iload_n 3, 1, 0, 0, 0, 0), (26, .i2l, 1, 0, 0, 0, 0), (27, .invokevirtual 254, 3, 43, 0, 1399, 0), (30, .ifCond .ne 6, 3, 0, 0, 0, 0)],
  [(33, .bipush (-2), 2, 0, 0, 0, 0), (35, .ireturn, 1, 0, 0, 0, 0)]]
def zT186 : List (List zE) := [[(0, .iload_n 0, 1, 0, 0, 0, 0), (1, .i2l, 1, 0, 0, 0, 0), (2, .lconst 0, 1, 0, 0, 0, 0), (3, .ldc2_w 462, 3, 0, 0, 1785, 2000000000), (6, .invokestatic 88, 3, 14, 1, 1275, 0), (9, .ireturn, 1, 0, 0, 0, 0)]]
def zT187 : List (List zE) := [[(0, .aload_n 0, 1, 0, 0, 0, 0), (1, .getfield 19, 3, 6, 1, 395, 0), (4, .iload_n 1, 1, 0, 0, 0, 0), (5, .invokevirtual 100, 3, 41, 0, 631, 0), (8, .ifCond .eq 13, 3, 0, 0, 0, 0), (21, .bipush (-2), 2, 0, 0, 0, 0), (23, .ireturn, 1, 0, 0, 0, 0)]]
def zT188 : List (List zE) := [[(0, .aload_n 0, 1, 0, 0, 0, 0), (1, .iconst 0, 1, 0, 0, 0, 0), (2, .putfield 83, 3, 7, 0, 1125, 0), (5, .aload_n 0, 1, 0, 0, 0, 0), (6, .iload_n 1, 1, 0, 0, 0, 0), (7, .i2l, 1, 0, 0, 0, 0), (8, .invokevirtual 254, 3, 43, 0, 1399, 0), (11, .ifCond .eq 15, 3, 0, 0, 0, 0), (26, .bipush (-2), 2, 0, 0, 0, 0), (28, .ireturn, 1, 0, 0, 0, 0)]]
def zT189 : List (List zE) := [[(0, .iload_n 1, 1, 0, 0, 0, 0), (1, .tableswitch 156 0 11 #[63, 71, 79, 87, 95, 103, 111, 119, 127, 135, 143, 151], 63, 0, 0, 0, 0)],
  [],
  [(64, .aload_n 0, 1, 0, 0, 0, 0), (65, .getfield 19, 3, 6, 1, 395, 0), (68, .getfield 164, 3, 0, 1, 177, 0), (71, .ireturn, 1, 0, 0, 0, 0), (72, .aload_n 0, 1, 0, 0, 0, 0), (73, .getfield 19, 3, 6, 1, 395, 0), (76, .getfield 313, 3, 0, 2, 181, 0), (79, .ireturn, 1, 0, 0, 0, 0), (80, .aload_n 0, 1, 0, 0, 0, 0), (81, .getfield 19, 3, 6, 1, 395, 0), (84, .getfield 314, 3, 0, 3, 184, 0), (87, .ireturn, 1, 0, 0, 0, 0), (88, .aload_n 0, 1, 0, 0, 0, 0), (89, .getfield 19, 3, 6, 1, 395, 0), (92, .getfield 317, 3, 0, 4, 188, 0), (95, .ireturn, 1, 0, 0, 0, 0)],
  [(96, .aload_n 0, 1, 0, 0, 0, 0), (97, .getfield 19, 3, 6, 1, 395, 0), (100, .getfield 320, 3, 0, 5, 191, 0), (103, .ireturn, 1, 0, 0, 0, 0), (104, .aload_n 0, 1, 0, 0, 0, 0), (105, .getfield 19, 3, 6, 1, 395, 0), (108, .getfield 146, 3, 0, 6, 197, 0), (111, .ireturn, 1, 0, 0, 0, 0), (112, .aload_n 0, 1, 0, 0, 0, 0), (113, .getfield 19, 3, 6, 1, 395, 0), (116, .getfield 323, 3, 0, 7, 200, 0), (119, .ireturn, 1, 0, 0, 0, 0), (120, .aload_n 0, 1, 0, 0, 0, 0), (121, .getfield 19, 3, 6, 1, 395, 0), (124, .getfield 326, 3, 0, 8, 203, 0), (127, .ireturn, 1, 0, 0, 0, 0)],
  [(128, .aload_n 0, 1, 0, 0, 0, 0), (129, .getfield 19, 3, 6, 1, 395, 0), (132, .getfield 294, 3, 0, 10, 209, 0), (135, .ireturn, 1, 0, 0, 0, 0), (136, .aload_n 0, 1, 0, 0, 0, 0), (137, .getfield 19, 3, 6, 1, 395, 0), (140, .getfield 91, 3, 0, 0, 172, 0), (143, .ireturn, 1, 0, 0, 0, 0), (144, .aload_n 0, 1, 0, 0, 0, 0), (145, .getfield 12, 3, 6, 0, 394, 0), (148, .getfield 73, 3, 3, 1, 136, 0), (151, .ireturn, 1, 0, 0, 0, 0), (152, .aload_n 0, 1, 0, 0, 0, 0), (153, .invokevirtual 329, 3, 190, 0, 1083, 0), (156, .ireturn, 1, 0, 0, 0, 0), (157, .iconst (-1), 1, 0, 0, 0, 0), (158, .ireturn, 1, 0, 0, 0, 0)]]
def zT190 : List (List zE) := [[(0, .iconst 0, 1, 0, 0, 0, 0), (1, .istore_n 1, 1, 0, 0, 0, 0), (2, .iconst 0, 1, 0, 0, 0, 0), (3, .istore_n 2, 1, 0, 0, 0, 0), (4, .iload_n 2, 1, 0, 0, 0, 0), (5, .iconst 4, 1, 0, 0, 0, 0), (6, .if_icmp .ge 24, 3, 0, 0, 0, 0), (9, .aload_n 0, 1, 0, 0, 0, 0), (10, .getfield 56, 3, 6, 7, 401, 0), (13, .iload_n 2, 1, 0, 0, 0, 0), (14, .aaload, 1, 0, 0, 0, 0), (15, .getfield 339, 3, 4, 1, 377, 0), (18, .ifCond .eq 6, 3, 0, 0, 0, 0), (24, .iinc 2 1, 3, 0, 0, 0, 0), (27, .goto (-23), 3, 0, 0, 0, 0), (30, .iload_n 1, 1, 0, 0, 0, 0), (31, .ireturn, 1, 0, 0, 0, 0)]]
def zT191 : List (List zE) := [[(0, .aload_n 0, 1, 0, 0, 0, 0), (1, .iconst 0, 1, 0, 0, 0, 0), (2, .putfield 83, 3, 7, 0, 1125, 0), (5, .iload_n 1, 1, 0, 0, 0, 0), (6, .i2l, 1, 0, 0, 0, 0), (7, .lconst 0, 1, 0, 0, 0, 0), (8, .ldc2_w 475, 3, 0, 0, 1825, 8), (11, .invokestatic 88, 3, 14, 1, 1275, 0), (14, .ifCond .eq 10, 3, 0, 0, 0, 0), (17, .aload_n 0, 1, 0, 0, 0, 0), (18, .getfield 34, 3, 7, 17, 1142, 0), (21, .iload_n 1, 1, 0, 0, 0, 0), (22, .iaload, 1, 0, 0, 0, 0), (23, .ireturn, 1, 0, 0, 0, 0), (24, .iconst 0, 1, 0, 0, 0, 0), (25, .istore_n 2, 1, 0, 0, 0, 0), (26, .iload_n 1, 1, 0, 0, 0, 0), (27, .tableswitch 70 9 11 #[25, 32, 37], 25, 0, 0, 0, 0)],
  [(52, .aload_n 0, 1, 0, 0, 0, 0), (53, .getfield 31, 3, 7, 16, 1141, 0), (56, .iconst 0, 1, 0, 0, 0, 0), (57, .iaload, 1, 0, 0, 0, 0), (58, .ireturn, 1, 0, 0, 0, 0), (59, .aload_n 0, 1, 0, 0, 0, 0), (60, .getfield 100, 3, 7, 6, 1131, 0), (63, .ireturn, 1, 0, 0, 0, 0)],
  [(64, .iconst 0, 1, 0, 0, 0, 0), (65, .istore_n 3, 1, 0, 0, 0, 0), (66, .iload_n 3, 1, 0, 0, 0, 0), (67, .iconst 4, 1, 0, 0, 0, 0), (68, .if_icmp .ge 27, 3, 0, 0, 0, 0), (71, .iload_n 2, 1, 0, 0, 0, 0), (72, .aload_n 0, 1, 0, 0, 0, 0), (73, .getfield 7, 3, 7, 1, 1126, 0), (76, .iload_n 3, 1, 0, 0, 0, 0), (77, .iaload, 1, 0, 0, 0, 0), (78, .iconst (-1), 1, 0, 0, 0, 0), (79, .if_icmp .ne 7, 3, 0, 0, 0, 0), (82, .iconst 0, 1, 0, 0, 0, 0), (83, .goto 4, 3, 0, 0, 0, 0), (87, .iadd, 1, 0, 0, 0, 0), (88, .istore_n 2, 1, 0, 0, 0, 0), (89, .iinc 3 1, 3, 0, 0, 0, 0), (92, .goto (-26), 3, 0, 0, 0, 0), (95, .iload_n 2, 1, 0, 0, 0, 0)],
  [(96, .ireturn, 1, 0, 0, 0, 0), (97, .iconst (-1), 1, 0, 0, 0, 0), (98, .ireturn, 1, 0, 0, 0, 0)]]
def zT192 : List (List zE) := [[(0, .iload_n 1, 1, 0, 0, 0, 0), (1, .ifCond .lt 8, 3, 0, 0, 0, 0), (4, .iload_n 1, 1, 0, 0, 0, 0), (5, .iconst 3, 1, 0, 0, 0, 0), (6, .if_icmp .lt 6, 3, 0, 0, 0, 0), (9, .bipush (-2), 2, 0, 0, 0, 0), (11, .ireturn, 1, 0, 0, 0, 0), (12, .aload_n 0, 1, 0, 0, 0, 0), (13, .getfield 60, 3, 6, 8, 402, 0), (16, .iload_n 1, 1, 0, 0, 0, 0), (17, .aaload, 1, 0, 0, 0, 0), (18, .aload_n 0, 1, 0, 0, 0, 0), (19, .getfield 19, 3, 6, 1, 395, 0), (22, .invokevirtual 85, 3, 20, 0, 547, 0), (25, .aload_n 0, 1, 0, 0, 0, 0), (26, .getfield 64, 3, 6, 9, 403, 0), (29, .iload_n 1, 1, 0, 0, 0, 0), (30, .iconst 1, 1, 0, 0, 0, 0), (31, .bastore, 1, 0, 0, 0, 0)],
  [(32, .iconst 0, 1, 0, 0, 0, 0), (33, .ireturn, 1, 0, 0, 0, 0)]]
def zT193 : List (List zE) := [[(0, .aload_n 0, 1, 0, 0, 0, 0), (1, .iconst 0, 1, 0, 0, 0, 0), (2, .putfield 83, 3, 7, 0, 1125, 0), (5, .iload_n 1, 1, 0, 0, 0, 0), (6, .i2l, 1, 0, 0, 0, 0), (7, .lconst 0, 1, 0, 0, 0, 0), (8, .ldc2_w 477, 3, 0, 0, 1830, 2), (11, .invokestatic 88, 3, 14, 1, 1275, 0), (14, .ifCond .ne 6, 3, 0, 0, 0, 0), (17, .bipush (-2), 2, 0, 0, 0, 0), (19, .ireturn, 1, 0, 0, 0, 0), (20, .aload_n 0, 1, 0, 0, 0, 0), (21, .iconst 0, 1, 0, 0, 0, 0), (22, .iconst 1, 1, 0, 0, 0, 0), (23, .iload_n 1, 1, 0, 0, 0, 0), (24, .iadd, 1, 0, 0, 0, 0), (25, .invokevirtual 238, 3, 36, 0, 1389, 0), (28, .aload_n 0, 1, 0, 0, 0, 0), (29, .getfield 49, 3, 7, 22, 1147, 0)],
  [(32, .iload_n 1, 1, 0, 0, 0, 0), (33, .iconst 1, 1, 0, 0, 0, 0), (34, .bastore, 1, 0, 0, 0, 0), (35, .iconst 0, 1, 0, 0, 0, 0), (36, .ireturn, 1, 0, 0, 0, 0)]]
def zT194 : List (List zE) := [[(0, .iload_n 1, 1, 0, 0, 0, 0), (1, .ifCond .lt 8, 3, 0, 0, 0, 0), (4, .iload_n 1, 1, 0, 0, 0, 0), (5, .iconst 3, 1, 0, 0, 0, 0), (6, .if_icmp .lt 6, 3, 0, 0, 0, 0), (9, .bipush (-2), 2, 0, 0, 0, 0), (11, .ireturn, 1, 0, 0, 0, 0), (12, .aload_n 0, 1, 0, 0, 0, 0), (13, .getfield 64, 3, 6, 9, 403, 0), (16, .iload_n 1, 1, 0, 0, 0, 0), (17, .baload, 1, 0, 0, 0, 0), (18, .ifCond .ne 6, 3, 0, 0, 0, 0), (21, .bipush (-6), 2, 0, 0, 0, 0), (23, .ireturn, 1, 0, 0, 0, 0)]]
def zT195 : List (List zE) := [[(0, .aload_n 0, 1, 0, 0, 0, 0), (1, .iconst 0, 1, 0, 0, 0, 0), (2, .putfield 83, 3, 7, 0, 1125, 0), (5, .iload_n 1, 1, 0, 0, 0, 0), (6, .i2l, 1, 0, 0, 0, 0), (7, .lconst 0, 1, 0, 0, 0, 0), (8, .ldc2_w 477, 3, 0, 0, 1830, 2), (11, .invokestatic 88, 3, 14, 1, 1275, 0), (14, .ifCond .ne 6, 3, 0, 0, 0, 0), (17, .bipush (-2), 2, 0, 0, 0, 0), (19, .ireturn, 1, 0, 0, 0, 0), (20, .aload_n 0, 1, 0, 0, 0, 0), (21, .getfield 49, 3, 7, 22, 1147, 0), (24, .iload_n 1, 1, 0, 0, 0, 0), (25, .baload, 1, 0, 0, 0, 0), (26, .ifCond .ne 6, 3, 0, 0, 0, 0), (29, .bipush (-6), 2, 0, 0, 0, 0), (31, .ireturn, 1, 0, 0, 0, 0)]]
def zT196 : List (List zE) := [[(0, .iload_n 1, 1, 0, 0, 0, 0), (1, .invokestatic 332, 3, 197, 1, 907, 0), (4, .ifCond .eq 18, 3, 0, 0, 0, 0), (7, .iload_n 2, 1, 0, 0, 0, 0), (8, .ifCond .lt 14, 3, 0, 0, 0, 0), (11, .iload_n 2, 1, 0, 0, 0, 0), (12, .iconst 3, 1, 0, 0, 0, 0), (13, .if_icmp .gt 9, 3, 0, 0, 0, 0), (16, .iload_n 3, 1, 0, 0, 0, 0), (17, .bipush 60, 2, 0, 0, 0, 0), (19, .if_icmp .le 6, 3, 0, 0, 0, 0), (22, .bipush (-2), 2, 0, 0, 0, 0), (24, .ireturn, 1, 0, 0, 0, 0), (25, .iload_n 3, 1, 0, 0, 0, 0), (26, .ifCond .ge 6, 3, 0, 0, 0, 0), (29, .bipush (-3), 2, 0, 0, 0, 0), (31, .ireturn, 1, 0, 0, 0, 0)],
  [(32, .aload_n 0, 1, 0, 0, 0, 0), (33, .getfield 56, 3, 6, 7, 401, 0), (36, .iload_n 1, 1, 0, 0, 0, 0), (37, .aaload, 1, 0, 0, 0, 0), (38, .iload_n 2, 1, 0, 0, 0, 0), (39, .iload_n 3, 1, 0, 0, 0, 0), (40, .invokevirtual 335, 3, 198, 0, 1098, 0), (43, .iconst 0, 1, 0, 0, 0, 0), (44, .ireturn, 1, 0, 0, 0, 0)]]
def zT197 : List (List zE) := [[(0, .iload_n 0, 1, 0, 0, 0, 0), (1, .ifCond .lt 12, 3, 0, 0, 0, 0), (4, .iload_n 0, 1, 0, 0, 0, 0), (5, .iconst 4, 1, 0, 0, 0, 0), (6, .if_icmp .ge 7, 3, 0, 0, 0, 0), (9, .iconst 1, 1, 0, 0, 0, 0), (10, .goto 4, 3, 0, 0, 0, 0), (13, .iconst 0, 1, 0, 0, 0, 0), (14, .ireturn, 1, 0, 0, 0, 0)]]
def zT198 : List (List zE) := [[(0, .aload_n 0, 1, 0, 0, 0, 0), (1, .iconst 1, 1, 0, 0, 0, 0), (2, .putfield 15, 3, 4, 1, 376, 1), (5, .aload_n 0, 1, 0, 0, 0, 0), (6, .iload_n 1, 1, 0, 0, 0, 0), (7, .putfield 19, 3, 4, 2, 378, 0), (10, .aload_n 0, 1, 0, 0, 0, 0), (11, .iload_n 2, 1, 0, 0, 0, 0), (12, .putfield 23, 3, 4, 3, 380, 0), (15, .iconst 0, 1, 0, 0, 0, 0), (16, .istore_n 3, 1, 0, 0, 0, 0), (17, .iload_n 3, 1, 0, 0, 0, 0), (18, .bipush 60, 2, 0, 0, 0, 0), (20, .if_icmp .ge 16, 3, 0, 0, 0, 0), (23, .aload_n 0, 1, 0, 0, 0, 0), (24, .getfield 9, 3, 4, 0, 373, 0), (27, .iload_n 3, 1, 0, 0, 0, 0), (28, .lconst 0, 1, 0, 0, 0, 0), (29, .lastore, 1, 0, 0, 0, 0), (30, .iinc 3 1, 3, 0, 0, 0, 0)],
  [(33, .goto (-16), 3, 0, 0, 0, 0), (36, .return_, 1, 0, 0, 0, 0)]]
def zT199 : List (List zE) := [[(0, .aload_n 0, 1, 0, 0, 0, 0), (1, .iconst 0, 1, 0, 0, 0, 0), (2, .putfield 83, 3, 7, 0, 1125, 0), (5, .iload_n 1, 1, 0, 0, 0, 0), (6, .invokestatic 92, 3, 143, 1, 1271, 0), (9, .ifCond .eq 21, 3, 0, 0, 0, 0), (12, .iload_n 2, 1, 0, 0, 0, 0), (13, .i2l, 1, 0, 0, 0, 0), (14, .lconst 0, 1, 0, 0, 0, 0), (15, .ldc2_w 86, 3, 0, 0, 1274, 3), (18, .invokestatic 88, 3, 14, 1, 1275, 0), (21, .ifCond .eq 9, 3, 0, 0, 0, 0), (24, .iload_n 3, 1, 0, 0, 0, 0), (25, .bipush 60, 2, 0, 0, 0, 0), (27, .if_icmp .le 6, 3, 0, 0, 0, 0), (30, .bipush (-2), 2, 0, 0, 0, 0)],
  [(32, .ireturn, 1, 0, 0, 0, 0), (33, .iload_n 3, 1, 0, 0, 0, 0), (34, .ifCond .ge 6, 3, 0, 0, 0, 0), (37, .bipush (-3), 2, 0, 0, 0, 0), (39, .ireturn, 1, 0, 0, 0, 0), (40, .aload_n 0, 1, 0, 0, 0, 0), (41, .getfield 7, 3, 7, 1, 1126, 0), (44, .iload_n 1, 1, 0, 0, 0, 0), (45, .iload_n 2, 1, 0, 0, 0, 0), (46, .iastore, 1, 0, 0, 0, 0), (47, .aload_n 0, 1, 0, 0, 0, 0), (48, .getfield 13, 3, 7, 2, 1127, 0), (51, .iload_n 1, 1, 0, 0, 0, 0), (52, .iload_n 3, 1, 0, 0, 0, 0), (53, .iastore, 1, 0, 0, 0, 0), (54, .iconst 0, 1, 0, 0, 0, 0), (55, .istore 4, 2, 0, 0, 0, 0), (57, .iload 4, 2, 0, 0, 0, 0), (59, .iload_n 3, 1, 0, 0, 0, 0), (60, .if_icmp .ge 22, 3, 0, 0, 0, 0), (63, .aload_n 0, 1, 0, 0, 0, 0)],
  [(64, .getfield 16, 3, 7, 3, 1128, 0), (67, .bipush 60, 2, 0, 0, 0, 0), (69, .iload_n 1, 1, 0, 0, 0, 0), (70, .imul, 1, 0, 0, 0, 0), (71, .iload 4, 2, 0, 0, 0, 0), (73, .iadd, 1, 0, 0, 0, 0), (74, .lconst 0, 1, 0, 0, 0, 0), (75, .lastore, 1, 0, 0, 0, 0), (76, .iinc 4 1, 3, 0, 0, 0, 0), (79, .goto (-22), 3, 0, 0, 0, 0), (82, .iconst 0, 1, 0, 0, 0, 0), (83, .ireturn, 1, 0, 0, 0, 0)]]
def zT200 : List (List zE) := [[(0, .iload_n 1, 1, 0, 0, 0, 0), (1, .invokestatic 332, 3, 197, 1, 907, 0), (4, .ifCond .ne 6, 3, 0, 0, 0, 0), (7, .bipush (-2), 2, 0, 0, 0, 0), (9, .ireturn, 1, 0, 0, 0, 0), (10, .aload_n 0, 1, 0, 0, 0, 0), (11, .getfield 56, 3, 6, 7, 401, 0), (14, .iload_n 1, 1, 0, 0, 0, 0), (15, .aaload, 1, 0, 0, 0, 0), (16, .astore 5, 2, 0, 0, 0, 0), (18, .aload 5, 2, 0, 0, 0, 0), (20, .getfield 339, 3, 4, 1, 377, 0), (23, .ifCond .ne 6, 3, 0, 0, 0, 0), (26, .bipush (-6), 2, 0, 0, 0, 0), (28, .ireturn, 1, 0, 0, 0, 0)]]
def zT201 : List (List zE) := [[(0, .aload_n 0, 1, 0, 0, 0, 0), (1, .iconst 0, 1, 0, 0, 0, 0), (2, .putfield 83, 3, 7, 0, 1125, 0), (5, .iload_n 1, 1, 0, 0, 0, 0), (6, .invokestatic 92, 3, 143, 1, 1271, 0), (9, .ifCond .ne 6, 3, 0, 0, 0, 0), (12, .bipush (-2), 2, 0, 0, 0, 0), (14, .ireturn, 1, 0, 0, 0, 0), (15, .aload_n 0, 1, 0, 0, 0, 0), (16, .getfield 7, 3, 7, 1, 1126, 0), (19, .iload_n 1, 1, 0, 0, 0, 0), (20, .iaload, 1, 0, 0, 0, 0), (21, .iconst (-1), 1, 0, 0, 0, 0), (22, .if_icmp .ne 6, 3, 0, 0, 0, 0), (25, .bipush (-6), 2, 0, 0, 0, 0), (27, .ireturn, 1, 0, 0, 0, 0)]]
def zT202 : List (List zE) := [[(0, .iload_n 1, 1, 0, 0, 0, 0), (1, .invokestatic 332, 3, 197, 1, 907, 0), (4, .ifCond .eq 10, 3, 0, 0, 0, 0), (7, .iload_n 3, 1, 0, 0, 0, 0), (8, .invokestatic 332, 3, 197, 1, 907, 0), (11, .ifCond .ne 6, 3, 0, 0, 0, 0), (14, .bipush (-2), 2, 0, 0, 0, 0), (16, .ireturn, 1, 0, 0, 0, 0), (17, .aload_n 0, 1, 0, 0, 0, 0), (18, .getfield 56, 3, 6, 7, 401, 0), (21, .iload_n 1, 1, 0, 0, 0, 0), (22, .aaload, 1, 0, 0, 0, 0), (23, .astore 6, 2, 0, 0, 0, 0), (25, .aload_n 0, 1, 0, 0, 0, 0), (26, .getfield 56, 3, 6, 7, 401, 0), (29, .iload_n 3, 1, 0, 0, 0, 0), (30, .aaload, 1, 0, 0, 0, 0), (31, .astore 7, 2, 0, 0, 0, 0)],
  [(33, .aload 6, 2, 0, 0, 0, 0), (35, .getfield 339, 3, 4, 1, 377, 0), (38, .ifCond .eq 11, 3, 0, 0, 0, 0), (49, .bipush (-6), 2, 0, 0, 0, 0), (51, .ireturn, 1, 0, 0, 0, 0)]]
def zT203 : List (List zE) := [[(0, .aload_n 0, 1, 0, 0, 0, 0), (1, .iconst 0, 1, 0, 0, 0, 0), (2, .putfield 83, 3, 7, 0, 1125, 0), (5, .iload_n 1, 1, 0, 0, 0, 0), (6, .invokestatic 92, 3, 143, 1, 1271, 0), (9, .ifCond .eq 10, 3, 0, 0, 0, 0), (12, .iload_n 3, 1, 0, 0, 0, 0), (13, .invokestatic 92, 3, 143, 1, 1271, 0), (16, .ifCond .ne 6, 3, 0, 0, 0, 0), (19, .bipush (-2), 2, 0, 0, 0, 0), (21, .ireturn, 1, 0, 0, 0, 0), (22, .aload_n 0, 1, 0, 0, 0, 0), (23, .getfield 7, 3, 7, 1, 1126, 0), (26, .iload_n 1, 1, 0, 0, 0, 0), (27, .iaload, 1, 0, 0, 0, 0), (28, .iconst (-1), 1, 0, 0, 0, 0), (29, .if_icmp .eq 13, 3, 0, 0, 0, 0)],
  [(42, .bipush (-6), 2, 0, 0, 0, 0), (44, .ireturn, 1, 0, 0, 0, 0)]]
def zD : List zN := [(1, 7, 3, 76, 2532, 2, zT0),
  (1, 4, 3, 1, 700, 1, zT1),
  (1, 1, 3, 7, 126, 1, zT2),
  (2, 6, 3, 8, 276, 2, zT3),
  (2, 3, 3, 1, 5, 2, zT4),
  (1, 2, 3, 1, 120, 1, zT5),
  (1, 5, 3, 1, 60, 1, zT6),
  (1, 8, 3, 22, 2107, 2, zT7),
  (6, 7, 0, 0, 0, 6, zT8),
  (2, 4, 3, 0, 0, 2, zT9),
  (6, 8, 0, 0, 0, 6, zT10),
  (2, 8, 3, 0, 0, 3, zT11),
  (2, 7, 0, 0, 0, 2, zT12),
  (2, 8, 0, 0, 0, 2, zT13),
  (3, 0, 1, 0, 0, 6, zT14),
  (1, 7, 0, 0, 0, 1, zT15),
  (2, 4, 1, 0, 0, 3, zT16),
  (1, 1, 3, 0, 0, 2, zT17),
  (1, 4, 3, 0, 0, 2, zT18),
  (2, 4, 0, 0, 0, 3, zT19),
  (2, 1, 3, 0, 0, 2, zT20),
  (1, 7, 3, 0, 0, 1, zT21),
  (1, 6, 3, 0, 0, 1, zT22),
  (1, 1, 0, 0, 0, 1, zT23),
  (2, 6, 3, 0, 0, 3, zT24),
  (1, 6, 3, 0, 0, 2, zT25),
  (2, 6, 3, 0, 0, 4, zT26),
  (1, 6, 3, 0, 0, 2, zT27),
  (1, 8, 0, 0, 0, 1, zT28),
  (1, 8, 3, 0, 0, 2, zT29),
  (3, 8, 3, 0, 0, 3, zT30),
  (1, 8, 3, 0, 0, 1, zT31),
  (1, 8, 3, 0, 0, 2, zT32),
  (4, 8, 1, 0, 0, 4, zT33),
  (1, 8, 1, 0, 0, 1, zT34),
  (1, 8, 3, 0, 0, 1, zT35),
  (3, 8, 3, 0, 0, 3, zT36),
  (4, 0, 3, 0, 0, 5, zT37),
  (2, 7, 0, 0, 0, 2, zT38),
  (2, 8, 0, 0, 0, 2, zT39),
  (3, 7, 0, 0, 0, 3, zT40),
  (2, 1, 1, 0, 0, 2, zT41),
  (3, 8, 0, 0, 0, 3, zT42),
  (2, 8, 1, 0, 0, 3, zT43),
  (1, 8, 0, 0, 0, 1, zT44),
  (2, 7, 0, 0, 0, 2, zT45),
  (2, 8, 0, 0, 0, 2, zT46),
  (3, 7, 0, 0, 0, 5, zT47),
  (3, 8, 0, 0, 0, 7, zT48),
  (2, 7, 0, 0, 0, 2, zT49),
  (2, 8, 0, 0, 0, 2, zT50),
  (1, 7, 0, 0, 0, 1, zT51),
  (1, 1, 1, 0, 0, 1, zT52),
  (1, 8, 0, 0, 0, 1, zT53),
  (1, 8, 1, 0, 0, 1, zT54),
  (1, 7, 0, 0, 0, 1, zT55),
  (1, 8, 0, 0, 0, 1, zT56),
  (2, 7, 0, 0, 0, 2, zT57),
  (2, 1, 1, 0, 0, 2, zT58),
  (2, 8, 0, 0, 0, 2, zT59),
  (2, 8, 1, 0, 0, 3, zT60),
  (3, 7, 0, 0, 0, 3, zT61),
  (3, 8, 0, 0, 0, 3, zT62),
  (3, 8, 1, 0, 0, 3, zT63),
  (2, 7, 0, 0, 0, 2, zT64),
  (2, 8, 0, 0, 0, 4, zT65),
  (2, 7, 0, 0, 0, 4, zT66),
  (2, 8, 0, 0, 0, 2, zT67),
  (2, 7, 0, 0, 0, 2, zT68),
  (2, 8, 0, 0, 0, 2, zT69),
  (2, 7, 0, 0, 0, 2, zT70),
  (2, 1, 1, 0, 0, 2, zT71),
  (2, 8, 0, 0, 0, 2, zT72),
  (2, 8, 1, 0, 0, 2, zT73),
  (1, 8, 0, 0, 0, 1, zT74),
  (2, 7, 0, 0, 0, 2, zT75),
  (2, 8, 0, 0, 0, 2, zT76),
  (2, 7, 0, 0, 0, 2, zT77),
  (2, 8, 0, 0, 0, 2, zT78),
  (2, 7, 0, 0, 0, 5, zT79),
  (2, 8, 0, 0, 0, 5, zT80),
  (1, 7, 0, 0, 0, 1, zT81),
  (1, 8, 0, 0, 0, 1, zT82),
  (1, 7, 0, 0, 0, 4, zT83),
  (1, 8, 0, 0, 0, 3, zT84),
  (1, 7, 0, 0, 0, 2, zT85),
  (1, 8, 0, 0, 0, 2, zT86),
  (1, 7, 0, 0, 0, 3, zT87),
  (1, 8, 0, 0, 0, 3, zT88),
  (2, 7, 0, 0, 0, 2, zT89),
  (2, 8, 0, 0, 0, 2, zT90),
  (1, 7, 0, 0, 0, 1, zT91),
  (1, 8, 0, 0, 0, 1, zT92),
  (1, 7, 0, 0, 0, 3, zT93),
  (1, 8, 0, 0, 0, 3, zT94),
  (3, 7, 0, 0, 0, 4, zT95),
  (3, 8, 0, 0, 0, 4, zT96),
  (1, 7, 0, 0, 0, 5, zT97),
  (1, 8, 0, 0, 0, 3, zT98),
  (2, 7, 0, 0, 0, 5, zT99),
  (2, 8, 0, 0, 0, 5, zT100),
  (3, 7, 0, 0, 0, 3, zT101),
  (3, 8, 0, 0, 0, 5, zT102),
  (2, 7, 0, 0, 0, 3, zT103),
  (2, 8, 0, 0, 0, 5, zT104),
  (2, 7, 0, 0, 0, 4, zT105),
  (2, 8, 0, 0, 0, 2, zT106),
  (2, 7, 0, 0, 0, 2, zT107),
  (2, 8, 0, 0, 0, 2, zT108),
  (1, 7, 0, 0, 0, 3, zT109),
  (1, 8, 0, 0, 0, 3, zT110),
  (1, 7, 0, 0, 0, 4, zT111),
  (1, 8, 0, 0, 0, 4, zT112),
  (1, 7, 0, 0, 0, 4, zT113),
  (1, 8, 0, 0, 0, 4, zT114),
  (2, 7, 0, 0, 0, 4, zT115),
  (2, 8, 0, 0, 0, 4, zT116),
  (2, 7, 0, 0, 0, 6, zT117),
  (2, 8, 0, 0, 0, 4, zT118),
  (2, 7, 0, 0, 0, 6, zT119),
  (2, 8, 0, 0, 0, 4, zT120),
  (2, 7, 0, 0, 0, 2, zT121),
  (2, 8, 0, 0, 0, 2, zT122),
  (2, 7, 0, 0, 0, 2, zT123),
  (2, 8, 0, 0, 0, 2, zT124),
  (1, 7, 0, 0, 0, 3, zT125),
  (1, 8, 0, 0, 0, 3, zT126),
  (1, 7, 0, 0, 0, 5, zT127),
  (1, 8, 0, 0, 0, 4, zT128),
  (1, 7, 0, 0, 0, 6, zT129),
  (1, 8, 0, 0, 0, 5, zT130),
  (2, 7, 0, 0, 0, 2, zT131),
  (2, 7, 1, 0, 0, 2, zT132),
  (2, 8, 0, 0, 0, 2, zT133),
  (2, 8, 1, 0, 0, 2, zT134),
  (3, 7, 0, 0, 0, 3, zT135),
  (3, 8, 0, 0, 0, 3, zT136),
  (2, 7, 0, 0, 0, 2, zT137),
  (2, 8, 0, 0, 0, 2, zT138),
  (3, 7, 0, 0, 0, 4, zT139),
  (3, 7, 0, 0, 0, 5, zT140),
  (3, 8, 0, 0, 0, 4, zT141),
  (3, 8, 0, 0, 0, 4, zT142),
  (1, 0, 1, 0, 0, 1, zT143),
  (3, 7, 0, 0, 0, 4, zT144),
  (3, 8, 0, 0, 0, 4, zT145),
  (3, 7, 0, 0, 0, 4, zT146),
  (3, 8, 0, 0, 0, 4, zT147),
  (3, 7, 0, 0, 0, 4, zT148),
  (3, 8, 0, 0, 0, 4, zT149),
  (3, 7, 0, 0, 0, 4, zT150),
  (3, 8, 0, 0, 0, 4, zT151),
  (2, 7, 0, 0, 0, 5, zT152),
  (2, 8, 0, 0, 0, 5, zT153),
  (2, 7, 0, 0, 0, 2, zT154),
  (2, 8, 0, 0, 0, 2, zT155),
  (1, 7, 0, 0, 0, 3, zT156),
  (1, 8, 0, 0, 0, 3, zT157),
  (2, 7, 0, 0, 0, 2, zT158),
  (2, 8, 0, 0, 0, 2, zT159),
  (3, 7, 0, 0, 0, 10, zT160),
  (3, 8, 0, 0, 0, 6, zT161),
  (3, 7, 0, 0, 0, 5, zT162),
  (3, 7, 1, 0, 0, 3, zT163),
  (3, 8, 0, 0, 0, 8, zT164),
  (3, 8, 1, 0, 0, 3, zT165),
  (5, 7, 0, 0, 0, 6, zT166),
  (5, 8, 0, 0, 0, 5, zT167),
  (4, 7, 0, 0, 0, 9, zT168),
  (4, 8, 0, 0, 0, 4, zT169),
  (3, 7, 2, 0, 0, 8, zT170),
  (2, 7, 1, 0, 0, 2, zT171),
  (3, 8, 2, 0, 0, 3, zT172),
  (2, 8, 1, 0, 0, 2, zT173),
  (3, 7, 0, 0, 0, 3, zT174),
  (3, 8, 0, 0, 0, 3, zT175),
  (3, 7, 0, 0, 0, 3, zT176),
  (3, 8, 0, 0, 0, 3, zT177),
  (1, 7, 0, 0, 0, 1, zT178),
  (1, 8, 0, 0, 0, 1, zT179),
  (1, 7, 0, 0, 0, 2, zT180),
  (1, 8, 0, 0, 0, 2, zT181),
  (3, 7, 0, 0, 0, 4, zT182),
  (3, 8, 0, 0, 0, 3, zT183),
  (4, 7, 0, 0, 0, 6, zT184),
  (4, 8, 0, 0, 0, 6, zT185),
  (1, 0, 1, 0, 0, 1, zT186),
  (3, 7, 0, 0, 0, 4, zT187),
  (3, 8, 0, 0, 0, 4, zT188),
  (2, 7, 0, 0, 0, 2, zT189),
  (1, 7, 0, 0, 0, 3, zT190),
  (2, 8, 0, 0, 0, 4, zT191),
  (2, 7, 0, 0, 0, 2, zT192),
  (2, 8, 0, 0, 0, 2, zT193),
  (2, 7, 0, 0, 0, 2, zT194),
  (2, 8, 0, 0, 0, 2, zT195),
  (4, 7, 0, 0, 0, 4, zT196),
  (1, 0, 1, 0, 0, 1, zT197),
  (3, 5, 3, 0, 0, 4, zT198),
  (4, 8, 0, 0, 0, 5, zT199),
  (4, 7, 0, 0, 0, 6, zT200),
  (4, 8, 0, 0, 0, 5, zT201),
  (6, 7, 0, 0, 0, 8, zT202),
  (6, 8, 0, 0, 0, 7, zT203)]
def zWs : List (Nat × Nat × Nat × Nat) := [(125, 106, 124, 0), (133, 107, 132, 0), (168, 108, 167, 0), (268, 109, 267, 0), (322, 110, 321, 0), (347, 111, 346, 0), (371, 112, 370, 0), (1123, 113, 1122, 0), (431, 106, 429, 430), (435, 107, 433, 434), (1292, 113, 1290, 1291), (1295, 113, 1294, 39), (439, 106, 437, 438), (1299, 113, 1297, 1298), (1277, 113, 1276, 0), (443, 106, 441, 442), (447, 107, 445, 446), (451, 108, 449, 450), (454, 107, 453, 0), (457, 107, 456, 1), (550, 108, 548, 549), (556, 106, 555, 13), (560, 109, 558, 559), (565, 108, 563, 564), (568, 109, 567, 14), (571, 109, 570, 15), (578, 109, 576, 577), (582, 109, 580, 581), (1307, 113, 1305, 1306), (1310, 113, 1309, 40), (1313, 113, 1312, 41), (1316, 113, 1315, 42), (1319, 113, 1318, 43), (1322, 113, 1321, 44), (1330, 113, 1329, 45), (1388, 113, 1387, 60), (1391, 113, 1390, 61), (1394, 113, 1393, 0), (626, 106, 624, 625), (1303, 113, 1301, 1302), (630, 106, 628, 629), (634, 108, 632, 633), (1398, 113, 1396, 1397), (1401, 113, 1400, 62), (1404, 113, 1403, 63), (638, 106, 636, 637), (1411, 113, 1409, 1410), (642, 106, 640, 641), (1421, 113, 1419, 1420), (647, 106, 645, 646), (1428, 113, 1426, 1427), (652, 106, 650, 651), (656, 108, 654, 655), (1435, 113, 1433, 1434), (1438, 113, 1437, 67), (670, 106, 668, 669), (1448, 113, 1446, 1447), (674, 106, 672, 673), (678, 108, 676, 677), (1452, 113, 1450, 1451), (1455, 113, 1454, 69), (683, 106, 681, 682), (1495, 113, 1493, 1494), (1498, 113, 1497, 80), (688, 106, 686, 687), (1502, 113, 1500, 1501), (693, 106, 691, 692), (1506, 113, 1504, 1505), (697, 106, 695, 696), (1517, 113, 1515, 1516), (705, 106, 703, 704), (709, 108, 707, 708), (1524, 113, 1522, 1523), (1527, 113, 1526, 83), (1458, 113, 1457, 70), (713, 106, 711, 712), (1531, 113, 1529, 1530), (720, 106, 718, 719), (1538, 113, 1536, 1537), (727, 106, 725, 726), (1545, 113, 1543, 1544), (732, 106, 730, 731), (1549, 113, 1547, 1548), (736, 106, 734, 735), (1553, 113, 1551, 1552), (741, 106, 739, 740), (1557, 113, 1555, 1556), (745, 106, 743, 744), (1561, 113, 1559, 1560), (749, 106, 747, 748), (1565, 113, 1563, 1564), (757, 106, 755, 756), (1572, 113, 1570, 1571), (766, 106, 764, 765), (1579, 113, 1577, 1578), (770, 106, 768, 769), (1583, 113, 1581, 1582), (774, 106, 772, 773), (1588, 113, 1586, 1587), (778, 106, 776, 777), (1595, 113, 1593, 1594), (786, 106, 784, 785), (1599, 113, 1597, 1598), (790, 106, 788, 789), (1603, 113, 1601, 1602), (794, 106, 792, 793), (1513, 113, 1511, 1512), (798, 106, 796, 797), (1607, 113, 1605, 1606), (803, 106, 801, 802), (1611, 113, 1609, 1610), (807, 106, 805, 806), (1615, 113, 1613, 1614), (811, 106, 809, 810), (1619, 113, 1617, 1618), (816, 106, 814, 815), (1624, 113, 1622, 1623), (820, 106, 818, 819), (1628, 113, 1626, 1627), (824, 106, 822, 823), (1632, 113, 1630, 1631), (828, 106, 826, 827), (1636, 113, 1634, 1635), (839, 106, 837, 838), (1643, 113, 1641, 1642), (846, 106, 844, 845), (1650, 113, 1648, 1649), (850, 106, 848, 849), (1654, 113, 1652, 1653), (857, 106, 855, 856), (1658, 113, 1656, 1657), (864, 106, 862, 863), (867, 106, 866, 25), (1662, 113, 1660, 1661), (1665, 113, 1664, 91), (892, 106, 890, 891), (1675, 113, 1673, 1674), (896, 106, 894, 895), (1679, 113, 1677, 1678), (900, 106, 898, 899), (903, 106, 902, 28), (1683, 113, 1681, 1682), (1686, 113, 1685, 94), (1273, 113, 1272, 0), (933, 106, 931, 932), (1696, 113, 1694, 1695), (937, 106, 935, 936), (1700, 113, 1698, 1699), (941, 106, 939, 940), (1704, 113, 1702, 1703), (954, 106, 952, 953), (1708, 113, 1706, 1707), (959, 106, 957, 958), (1712, 113, 1710, 1711), (963, 106, 961, 962), (1719, 113, 1717, 1718), (970, 106, 968, 969), (1723, 113, 1721, 1722), (974, 106, 972, 973), (1727, 113, 1725, 1726), (985, 106, 983, 984), (1734, 113, 1732, 1733), (999, 106, 997, 998), (1002, 106, 1001, 32), (1748, 113, 1746, 1747), (1751, 113, 1750, 99), (1012, 106, 1010, 1011), (1758, 113, 1756, 1757), (1016, 106, 1014, 1015), (1762, 113, 1760, 1761), (1029, 106, 1027, 1028), (1019, 106, 1018, 35), (1776, 113, 1774, 1775), (1765, 113, 1764, 101), (1034, 106, 1032, 1033), (1801, 113, 1799, 1800), (1042, 106, 1040, 1041), (1808, 113, 1806, 1807), (1046, 106, 1044, 1045), (1812, 113, 1810, 1811), (1050, 106, 1048, 1049), (1816, 113, 1814, 1815), (1054, 106, 1052, 1053), (1781, 113, 1779, 1780), (1070, 106, 1068, 1069), (1796, 113, 1794, 1795), (1784, 113, 1783, 0), (1078, 106, 1076, 1077), (1820, 113, 1818, 1819), (1082, 106, 1080, 1081), (1085, 106, 1084, 38), (1824, 113, 1822, 1823), (1089, 106, 1087, 1088), (1829, 113, 1827, 1828), (1093, 106, 1091, 1092), (1834, 113, 1832, 1833), (1097, 106, 1095, 1096), (909, 106, 908, 0), (1101, 112, 1099, 1100), (1270, 113, 1268, 1269), (1105, 106, 1103, 1104), (1281, 113, 1279, 1280), (1113, 106, 1111, 1112), (1288, 113, 1286, 1287)]
set_option maxRecDepth 100000 in
def zTL : List (List zE) := [[(0, .new 7, 3, 6, 122, 121, 106), (3, .dup, 1, 0, 0, 0, 0), (4, .invokespecial 9, 3, 0, 2, 123, 0), (7, .astore_n 1, 1, 0, 0, 0, 0), (8, .new 10, 3, 7, 1120, 1119, 113), (11, .dup, 1, 0, 0, 0, 0), (12, .invokespecial 12, 3, 7, 2, 1121, 0), (15, .astore_n 2, 1, 0, 0, 0, 0), (16, .iconst 0, 1, 0, 0, 0, 0), (17, .istore_n 3, 1, 0, 0, 0, 0), (18, .iload_n 3, 1, 0, 0, 0, 0), (19, .aload_n 0, 1, 0, 0, 0, 0), (20, .arraylength, 1, 0, 0, 0, 0), (21, .bipush 6, 2, 0, 0, 0, 0), (23, .isub, 1, 0, 0, 0, 0), (24, .if_icmp .gt 2239, 3, 0, 0, 0, 0), (27, .aload_n 0, 1, 0, 0, 0, 0), (28, .iload_n 3, 1, 0, 0, 0, 0), (29, .iaload, 1, 0, 0, 0, 0), (30, .bipush 127, 2, 0, 0, 0, 0)],
  [(32, .iand, 1, 0, 0, 0, 0), (33, .tableswitch 2224 0 73 #[311, 374, 397, 410, 433, 466, 489, 522, 545, 558, 571, 594, 627, 650, 673, 696, 719, 742, 765, 788, 801, 814, 827, 840, 863, 876, 889, 922, 935, 958, 991, 1014, 1037, 1060, 1073, 1086, 1099, 1122, 1145, 1168, 1191, 1214, 1227, 1240, 1253, 1276, 1309, 1332, 1365, 1398, 1431, 1464, 1497, 1520, 1543, 1556, 1579, 1612, 1645, 1698, 1741, 1775, 1808, 1841, 1854, 1867, 1900, 1943, 1976, 1999, 2022, 2045, 2088, 2161], 311, 0, 0, 0, 0)],
  [],
  [],
  [],
  [],
  [],
  [],
  [],
  [],
  [(344, .aload_n 1, 1, 0, 0, 0, 0), (345, .aload_n 0, 1, 0, 0, 0, 0), (346, .iload_n 3, 1, 0, 0, 0, 0), (347, .iconst 1, 1, 0, 0, 0, 0), (348, .iadd, 1, 0, 0, 0, 0), (349, .iaload, 1, 0, 0, 0, 0), (350, .aload_n 0, 1, 0, 0, 0, 0), (351, .iload_n 3, 1, 0, 0, 0, 0)],
  [(352, .iconst 2, 1, 0, 0, 0, 0), (353, .iadd, 1, 0, 0, 0, 0), (354, .iaload, 1, 0, 0, 0, 0), (355, .aload_n 0, 1, 0, 0, 0, 0), (356, .iload_n 3, 1, 0, 0, 0, 0), (357, .iconst 3, 1, 0, 0, 0, 0), (358, .iadd, 1, 0, 0, 0, 0), (359, .iaload, 1, 0, 0, 0, 0), (360, .aload_n 0, 1, 0, 0, 0, 0), (361, .iload_n 3, 1, 0, 0, 0, 0), (362, .iconst 4, 1, 0, 0, 0, 0), (363, .iadd, 1, 0, 0, 0, 0), (364, .iaload, 1, 0, 0, 0, 0), (365, .aload_n 0, 1, 0, 0, 0, 0), (366, .iload_n 3, 1, 0, 0, 0, 0), (367, .iconst 5, 1, 0, 0, 0, 0), (368, .iadd, 1, 0, 0, 0, 0), (369, .iaload, 1, 0, 0, 0, 0), (370, .invokevirtual 13, 3, 8, 0, 428, 0), (373, .aload_n 2, 1, 0, 0, 0, 0), (374, .aload_n 0, 1, 0, 0, 0, 0), (375, .iload_n 3, 1, 0, 0, 0, 0), (376, .iconst 1, 1, 0, 0, 0, 0), (377, .iadd, 1, 0, 0, 0, 0), (378, .iaload, 1, 0, 0, 0, 0), (379, .aload_n 0, 1, 0, 0, 0, 0), (380, .iload_n 3, 1, 0, 0, 0, 0), (381, .iconst 2, 1, 0, 0, 0, 0), (382, .iadd, 1, 0, 0, 0, 0), (383, .iaload, 1, 0, 0, 0, 0)],
  [(384, .aload_n 0, 1, 0, 0, 0, 0), (385, .iload_n 3, 1, 0, 0, 0, 0), (386, .iconst 3, 1, 0, 0, 0, 0), (387, .iadd, 1, 0, 0, 0, 0), (388, .iaload, 1, 0, 0, 0, 0), (389, .aload_n 0, 1, 0, 0, 0, 0), (390, .iload_n 3, 1, 0, 0, 0, 0), (391, .iconst 4, 1, 0, 0, 0, 0), (392, .iadd, 1, 0, 0, 0, 0), (393, .iaload, 1, 0, 0, 0, 0), (394, .aload_n 0, 1, 0, 0, 0, 0), (395, .iload_n 3, 1, 0, 0, 0, 0), (396, .iconst 5, 1, 0, 0, 0, 0), (397, .iadd, 1, 0, 0, 0, 0), (398, .iaload, 1, 0, 0, 0, 0), (399, .invokevirtual 17, 3, 10, 0, 1289, 0), (402, .if_icmp .eq 1855, 3, 0, 0, 0, 0), (407, .aload_n 1, 1, 0, 0, 0, 0), (408, .aload_n 0, 1, 0, 0, 0, 0), (409, .iload_n 3, 1, 0, 0, 0, 0), (410, .iconst 1, 1, 0, 0, 0, 0), (411, .iadd, 1, 0, 0, 0, 0), (412, .iaload, 1, 0, 0, 0, 0), (413, .invokevirtual 18, 3, 12, 0, 436, 0)],
  [(416, .aload_n 2, 1, 0, 0, 0, 0), (417, .aload_n 0, 1, 0, 0, 0, 0), (418, .iload_n 3, 1, 0, 0, 0, 0), (419, .iconst 1, 1, 0, 0, 0, 0), (420, .iadd, 1, 0, 0, 0, 0), (421, .iaload, 1, 0, 0, 0, 0), (422, .invokevirtual 22, 3, 13, 0, 1296, 0), (425, .if_icmp .eq 1832, 3, 0, 0, 0, 0), (430, .aload_n 1, 1, 0, 0, 0, 0), (431, .invokevirtual 23, 3, 15, 0, 440, 0), (434, .aload_n 2, 1, 0, 0, 0, 0), (435, .invokevirtual 27, 3, 28, 0, 1304, 0), (438, .if_icmp .eq 1819, 3, 0, 0, 0, 0), (443, .aload_n 1, 1, 0, 0, 0, 0), (444, .aload_n 0, 1, 0, 0, 0, 0), (445, .iload_n 3, 1, 0, 0, 0, 0), (446, .iconst 1, 1, 0, 0, 0, 0), (447, .iadd, 1, 0, 0, 0, 0)],
  [(448, .iaload, 1, 0, 0, 0, 0), (449, .invokevirtual 28, 3, 38, 0, 623, 0), (452, .aload_n 2, 1, 0, 0, 0, 0), (453, .aload_n 0, 1, 0, 0, 0, 0), (454, .iload_n 3, 1, 0, 0, 0, 0), (455, .iconst 1, 1, 0, 0, 0, 0), (456, .iadd, 1, 0, 0, 0, 0), (457, .iaload, 1, 0, 0, 0, 0), (458, .invokevirtual 31, 3, 39, 0, 1300, 0), (461, .if_icmp .eq 1796, 3, 0, 0, 0, 0), (466, .aload_n 1, 1, 0, 0, 0, 0), (467, .aload_n 0, 1, 0, 0, 0, 0), (468, .iload_n 3, 1, 0, 0, 0, 0), (469, .iconst 1, 1, 0, 0, 0, 0), (470, .iadd, 1, 0, 0, 0, 0), (471, .iaload, 1, 0, 0, 0, 0), (472, .aload_n 0, 1, 0, 0, 0, 0), (473, .iload_n 3, 1, 0, 0, 0, 0), (474, .iconst 2, 1, 0, 0, 0, 0), (475, .iadd, 1, 0, 0, 0, 0), (476, .iaload, 1, 0, 0, 0, 0), (477, .invokevirtual 32, 3, 40, 0, 627, 0)],
  [(480, .aload_n 2, 1, 0, 0, 0, 0), (481, .aload_n 0, 1, 0, 0, 0, 0), (482, .iload_n 3, 1, 0, 0, 0, 0), (483, .iconst 1, 1, 0, 0, 0, 0), (484, .iadd, 1, 0, 0, 0, 0), (485, .iaload, 1, 0, 0, 0, 0), (486, .aload_n 0, 1, 0, 0, 0, 0), (487, .iload_n 3, 1, 0, 0, 0, 0), (488, .iconst 2, 1, 0, 0, 0, 0), (489, .iadd, 1, 0, 0, 0, 0), (490, .iaload, 1, 0, 0, 0, 0), (491, .invokevirtual 36, 3, 42, 0, 1395, 0), (494, .if_icmp .eq 1763, 3, 0, 0, 0, 0), (499, .aload_n 1, 1, 0, 0, 0, 0), (500, .aload_n 0, 1, 0, 0, 0, 0), (501, .iload_n 3, 1, 0, 0, 0, 0), (502, .iconst 1, 1, 0, 0, 0, 0), (503, .iadd, 1, 0, 0, 0, 0), (504, .iaload, 1, 0, 0, 0, 0), (505, .invokevirtual 37, 3, 45, 0, 635, 0), (508, .aload_n 2, 1, 0, 0, 0, 0), (509, .aload_n 0, 1, 0, 0, 0, 0), (510, .iload_n 3, 1, 0, 0, 0, 0), (511, .iconst 1, 1, 0, 0, 0, 0)],
  [(512, .iadd, 1, 0, 0, 0, 0), (513, .iaload, 1, 0, 0, 0, 0), (514, .invokevirtual 40, 3, 46, 0, 1408, 0), (517, .if_icmp .eq 1740, 3, 0, 0, 0, 0), (522, .aload_n 1, 1, 0, 0, 0, 0), (523, .aload_n 0, 1, 0, 0, 0, 0), (524, .iload_n 3, 1, 0, 0, 0, 0), (525, .iconst 1, 1, 0, 0, 0, 0), (526, .iadd, 1, 0, 0, 0, 0), (527, .iaload, 1, 0, 0, 0, 0), (528, .aload_n 0, 1, 0, 0, 0, 0), (529, .iload_n 3, 1, 0, 0, 0, 0), (530, .iconst 2, 1, 0, 0, 0, 0), (531, .iadd, 1, 0, 0, 0, 0), (532, .iaload, 1, 0, 0, 0, 0), (533, .invokevirtual 41, 3, 47, 0, 639, 0), (536, .aload_n 2, 1, 0, 0, 0, 0), (537, .aload_n 0, 1, 0, 0, 0, 0), (538, .iload_n 3, 1, 0, 0, 0, 0), (539, .iconst 1, 1, 0, 0, 0, 0), (540, .iadd, 1, 0, 0, 0, 0), (541, .iaload, 1, 0, 0, 0, 0), (542, .aload_n 0, 1, 0, 0, 0, 0), (543, .iload_n 3, 1, 0, 0, 0, 0)],
  [(544, .iconst 2, 1, 0, 0, 0, 0), (545, .iadd, 1, 0, 0, 0, 0), (546, .iaload, 1, 0, 0, 0, 0), (547, .invokevirtual 44, 3, 48, 0, 1418, 0), (550, .if_icmp .eq 1707, 3, 0, 0, 0, 0), (555, .aload_n 1, 1, 0, 0, 0, 0), (556, .aload_n 0, 1, 0, 0, 0, 0), (557, .iload_n 3, 1, 0, 0, 0, 0), (558, .iconst 1, 1, 0, 0, 0, 0), (559, .iadd, 1, 0, 0, 0, 0), (560, .iaload, 1, 0, 0, 0, 0), (561, .invokevirtual 45, 3, 49, 0, 644, 0), (564, .aload_n 2, 1, 0, 0, 0, 0), (565, .aload_n 0, 1, 0, 0, 0, 0), (566, .iload_n 3, 1, 0, 0, 0, 0), (567, .iconst 1, 1, 0, 0, 0, 0), (568, .iadd, 1, 0, 0, 0, 0), (569, .iaload, 1, 0, 0, 0, 0), (570, .invokevirtual 48, 3, 50, 0, 1425, 0), (573, .if_icmp .eq 1684, 3, 0, 0, 0, 0)],
  [(578, .aload_n 1, 1, 0, 0, 0, 0), (579, .invokevirtual 49, 3, 51, 0, 649, 0), (582, .aload_n 2, 1, 0, 0, 0, 0), (583, .invokevirtual 52, 3, 53, 0, 1432, 0), (586, .if_icmp .eq 1671, 3, 0, 0, 0, 0), (591, .aload_n 1, 1, 0, 0, 0, 0), (592, .invokevirtual 53, 3, 55, 0, 667, 0), (595, .aload_n 2, 1, 0, 0, 0, 0), (596, .invokevirtual 56, 3, 56, 0, 1445, 0), (599, .if_icmp .eq 1658, 3, 0, 0, 0, 0), (604, .aload_n 1, 1, 0, 0, 0, 0), (605, .aload_n 0, 1, 0, 0, 0, 0), (606, .iload_n 3, 1, 0, 0, 0, 0), (607, .iconst 1, 1, 0, 0, 0, 0)],
  [(608, .iadd, 1, 0, 0, 0, 0), (609, .iaload, 1, 0, 0, 0, 0), (610, .invokevirtual 57, 3, 57, 0, 671, 0), (613, .aload_n 2, 1, 0, 0, 0, 0), (614, .aload_n 0, 1, 0, 0, 0, 0), (615, .iload_n 3, 1, 0, 0, 0, 0), (616, .iconst 1, 1, 0, 0, 0, 0), (617, .iadd, 1, 0, 0, 0, 0), (618, .iaload, 1, 0, 0, 0, 0), (619, .invokevirtual 60, 3, 59, 0, 1449, 0), (622, .if_icmp .eq 1635, 3, 0, 0, 0, 0), (627, .aload_n 1, 1, 0, 0, 0, 0), (628, .aload_n 0, 1, 0, 0, 0, 0), (629, .iload_n 3, 1, 0, 0, 0, 0), (630, .iconst 1, 1, 0, 0, 0, 0), (631, .iadd, 1, 0, 0, 0, 0), (632, .iaload, 1, 0, 0, 0, 0), (633, .aload_n 0, 1, 0, 0, 0, 0), (634, .iload_n 3, 1, 0, 0, 0, 0), (635, .iconst 2, 1, 0, 0, 0, 0), (636, .iadd, 1, 0, 0, 0, 0), (637, .iaload, 1, 0, 0, 0, 0), (638, .invokevirtual 61, 3, 61, 0, 680, 0)],
  [(641, .aload_n 2, 1, 0, 0, 0, 0), (642, .aload_n 0, 1, 0, 0, 0, 0), (643, .iload_n 3, 1, 0, 0, 0, 0), (644, .iconst 1, 1, 0, 0, 0, 0), (645, .iadd, 1, 0, 0, 0, 0), (646, .iaload, 1, 0, 0, 0, 0), (647, .aload_n 0, 1, 0, 0, 0, 0), (648, .iload_n 3, 1, 0, 0, 0, 0), (649, .iconst 2, 1, 0, 0, 0, 0), (650, .iadd, 1, 0, 0, 0, 0), (651, .iaload, 1, 0, 0, 0, 0), (652, .invokevirtual 64, 3, 62, 0, 1492, 0), (655, .if_icmp .eq 1602, 3, 0, 0, 0, 0), (660, .aload_n 1, 1, 0, 0, 0, 0), (661, .aload_n 0, 1, 0, 0, 0, 0), (662, .iload_n 3, 1, 0, 0, 0, 0), (663, .iconst 1, 1, 0, 0, 0, 0), (664, .iadd, 1, 0, 0, 0, 0), (665, .iaload, 1, 0, 0, 0, 0), (666, .invokevirtual 65, 3, 64, 0, 685, 0), (669, .aload_n 2, 1, 0, 0, 0, 0), (670, .aload_n 0, 1, 0, 0, 0, 0), (671, .iload_n 3, 1, 0, 0, 0, 0)],
  [(672, .iconst 1, 1, 0, 0, 0, 0), (673, .iadd, 1, 0, 0, 0, 0), (674, .iaload, 1, 0, 0, 0, 0), (675, .invokevirtual 68, 3, 65, 0, 1499, 0), (678, .if_icmp .eq 1579, 3, 0, 0, 0, 0), (683, .aload_n 1, 1, 0, 0, 0, 0), (684, .aload_n 0, 1, 0, 0, 0, 0), (685, .iload_n 3, 1, 0, 0, 0, 0), (686, .iconst 1, 1, 0, 0, 0, 0), (687, .iadd, 1, 0, 0, 0, 0), (688, .iaload, 1, 0, 0, 0, 0), (689, .invokevirtual 69, 3, 66, 0, 690, 0), (692, .aload_n 2, 1, 0, 0, 0, 0), (693, .aload_n 0, 1, 0, 0, 0, 0), (694, .iload_n 3, 1, 0, 0, 0, 0), (695, .iconst 1, 1, 0, 0, 0, 0), (696, .iadd, 1, 0, 0, 0, 0), (697, .iaload, 1, 0, 0, 0, 0), (698, .invokevirtual 72, 3, 67, 0, 1503, 0), (701, .if_icmp .eq 1556, 3, 0, 0, 0, 0)],
  [(706, .aload_n 1, 1, 0, 0, 0, 0), (707, .aload_n 0, 1, 0, 0, 0, 0), (708, .iload_n 3, 1, 0, 0, 0, 0), (709, .iconst 1, 1, 0, 0, 0, 0), (710, .iadd, 1, 0, 0, 0, 0), (711, .iaload, 1, 0, 0, 0, 0), (712, .invokevirtual 73, 3, 68, 0, 694, 0), (715, .aload_n 2, 1, 0, 0, 0, 0), (716, .aload_n 0, 1, 0, 0, 0, 0), (717, .iload_n 3, 1, 0, 0, 0, 0), (718, .iconst 1, 1, 0, 0, 0, 0), (719, .iadd, 1, 0, 0, 0, 0), (720, .iaload, 1, 0, 0, 0, 0), (721, .invokevirtual 76, 3, 69, 0, 1514, 0), (724, .if_icmp .eq 1533, 3, 0, 0, 0, 0), (729, .aload_n 1, 1, 0, 0, 0, 0), (730, .aload_n 0, 1, 0, 0, 0, 0), (731, .iload_n 3, 1, 0, 0, 0, 0), (732, .iconst 1, 1, 0, 0, 0, 0), (733, .iadd, 1, 0, 0, 0, 0), (734, .iaload, 1, 0, 0, 0, 0), (735, .invokevirtual 77, 3, 70, 0, 702, 0)],
  [(738, .aload_n 2, 1, 0, 0, 0, 0), (739, .aload_n 0, 1, 0, 0, 0, 0), (740, .iload_n 3, 1, 0, 0, 0, 0), (741, .iconst 1, 1, 0, 0, 0, 0), (742, .iadd, 1, 0, 0, 0, 0), (743, .iaload, 1, 0, 0, 0, 0), (744, .invokevirtual 80, 3, 72, 0, 1521, 0), (747, .if_icmp .eq 1510, 3, 0, 0, 0, 0), (752, .aload_n 1, 1, 0, 0, 0, 0), (753, .aload_n 0, 1, 0, 0, 0, 0), (754, .iload_n 3, 1, 0, 0, 0, 0), (755, .iconst 1, 1, 0, 0, 0, 0), (756, .iadd, 1, 0, 0, 0, 0), (757, .iaload, 1, 0, 0, 0, 0), (758, .invokevirtual 81, 3, 75, 0, 710, 0), (761, .aload_n 2, 1, 0, 0, 0, 0), (762, .aload_n 0, 1, 0, 0, 0, 0), (763, .iload_n 3, 1, 0, 0, 0, 0), (764, .iconst 1, 1, 0, 0, 0, 0), (765, .iadd, 1, 0, 0, 0, 0), (766, .iaload, 1, 0, 0, 0, 0), (767, .invokevirtual 84, 3, 76, 0, 1528, 0)],
  [(770, .if_icmp .eq 1487, 3, 0, 0, 0, 0), (775, .aload_n 1, 1, 0, 0, 0, 0), (776, .aload_n 0, 1, 0, 0, 0, 0), (777, .iload_n 3, 1, 0, 0, 0, 0), (778, .iconst 1, 1, 0, 0, 0, 0), (779, .iadd, 1, 0, 0, 0, 0), (780, .iaload, 1, 0, 0, 0, 0), (781, .invokevirtual 85, 3, 77, 0, 717, 0), (784, .aload_n 2, 1, 0, 0, 0, 0), (785, .aload_n 0, 1, 0, 0, 0, 0), (786, .iload_n 3, 1, 0, 0, 0, 0), (787, .iconst 1, 1, 0, 0, 0, 0), (788, .iadd, 1, 0, 0, 0, 0), (789, .iaload, 1, 0, 0, 0, 0), (790, .invokevirtual 88, 3, 78, 0, 1535, 0), (793, .if_icmp .eq 1464, 3, 0, 0, 0, 0), (798, .aload_n 1, 1, 0, 0, 0, 0), (799, .aload_n 0, 1, 0, 0, 0, 0)],
  [(800, .iload_n 3, 1, 0, 0, 0, 0), (801, .iconst 1, 1, 0, 0, 0, 0), (802, .iadd, 1, 0, 0, 0, 0), (803, .iaload, 1, 0, 0, 0, 0), (804, .invokevirtual 89, 3, 79, 0, 724, 0), (807, .aload_n 2, 1, 0, 0, 0, 0), (808, .aload_n 0, 1, 0, 0, 0, 0), (809, .iload_n 3, 1, 0, 0, 0, 0), (810, .iconst 1, 1, 0, 0, 0, 0), (811, .iadd, 1, 0, 0, 0, 0), (812, .iaload, 1, 0, 0, 0, 0), (813, .invokevirtual 92, 3, 80, 0, 1542, 0), (816, .if_icmp .eq 1441, 3, 0, 0, 0, 0), (821, .aload_n 1, 1, 0, 0, 0, 0), (822, .invokevirtual 93, 3, 81, 0, 729, 0), (825, .aload_n 2, 1, 0, 0, 0, 0), (826, .invokevirtual 96, 3, 82, 0, 1546, 0), (829, .if_icmp .eq 1428, 3, 0, 0, 0, 0)],
  [(834, .aload_n 1, 1, 0, 0, 0, 0), (835, .invokevirtual 97, 3, 83, 0, 733, 0), (838, .aload_n 2, 1, 0, 0, 0, 0), (839, .invokevirtual 100, 3, 84, 0, 1550, 0), (842, .if_icmp .eq 1415, 3, 0, 0, 0, 0), (847, .aload_n 1, 1, 0, 0, 0, 0), (848, .invokevirtual 101, 3, 85, 0, 738, 0), (851, .aload_n 2, 1, 0, 0, 0, 0), (852, .invokevirtual 104, 3, 86, 0, 1554, 0), (855, .if_icmp .eq 1402, 3, 0, 0, 0, 0), (860, .aload_n 1, 1, 0, 0, 0, 0), (861, .invokevirtual 105, 3, 87, 0, 742, 0)],
  [(864, .aload_n 2, 1, 0, 0, 0, 0), (865, .invokevirtual 108, 3, 88, 0, 1558, 0), (868, .if_icmp .eq 1389, 3, 0, 0, 0, 0), (873, .aload_n 1, 1, 0, 0, 0, 0), (874, .aload_n 0, 1, 0, 0, 0, 0), (875, .iload_n 3, 1, 0, 0, 0, 0), (876, .iconst 1, 1, 0, 0, 0, 0), (877, .iadd, 1, 0, 0, 0, 0), (878, .iaload, 1, 0, 0, 0, 0), (879, .invokevirtual 109, 3, 89, 0, 746, 0), (882, .aload_n 2, 1, 0, 0, 0, 0), (883, .aload_n 0, 1, 0, 0, 0, 0), (884, .iload_n 3, 1, 0, 0, 0, 0), (885, .iconst 1, 1, 0, 0, 0, 0), (886, .iadd, 1, 0, 0, 0, 0), (887, .iaload, 1, 0, 0, 0, 0), (888, .invokevirtual 112, 3, 90, 0, 1562, 0), (891, .if_icmp .eq 1366, 3, 0, 0, 0, 0)],
  [(896, .aload_n 1, 1, 0, 0, 0, 0), (897, .invokevirtual 113, 3, 91, 0, 754, 0), (900, .aload_n 2, 1, 0, 0, 0, 0), (901, .invokevirtual 116, 3, 92, 0, 1569, 0), (904, .if_icmp .eq 1353, 3, 0, 0, 0, 0), (909, .aload_n 1, 1, 0, 0, 0, 0), (910, .invokevirtual 117, 3, 93, 0, 763, 0), (913, .aload_n 2, 1, 0, 0, 0, 0), (914, .invokevirtual 120, 3, 94, 0, 1576, 0), (917, .if_icmp .eq 1340, 3, 0, 0, 0, 0), (922, .aload_n 1, 1, 0, 0, 0, 0), (923, .aload_n 0, 1, 0, 0, 0, 0), (924, .iload_n 3, 1, 0, 0, 0, 0), (925, .iconst 1, 1, 0, 0, 0, 0), (926, .iadd, 1, 0, 0, 0, 0), (927, .iaload, 1, 0, 0, 0, 0)],
  [(928, .aload_n 0, 1, 0, 0, 0, 0), (929, .iload_n 3, 1, 0, 0, 0, 0), (930, .iconst 2, 1, 0, 0, 0, 0), (931, .iadd, 1, 0, 0, 0, 0), (932, .iaload, 1, 0, 0, 0, 0), (933, .invokevirtual 121, 3, 95, 0, 767, 0), (936, .aload_n 2, 1, 0, 0, 0, 0), (937, .aload_n 0, 1, 0, 0, 0, 0), (938, .iload_n 3, 1, 0, 0, 0, 0), (939, .iconst 1, 1, 0, 0, 0, 0), (940, .iadd, 1, 0, 0, 0, 0), (941, .iaload, 1, 0, 0, 0, 0), (942, .aload_n 0, 1, 0, 0, 0, 0), (943, .iload_n 3, 1, 0, 0, 0, 0), (944, .iconst 2, 1, 0, 0, 0, 0), (945, .iadd, 1, 0, 0, 0, 0), (946, .iaload, 1, 0, 0, 0, 0), (947, .invokevirtual 124, 3, 96, 0, 1580, 0), (950, .if_icmp .eq 1307, 3, 0, 0, 0, 0), (955, .aload_n 1, 1, 0, 0, 0, 0), (956, .invokevirtual 125, 3, 97, 0, 771, 0), (959, .aload_n 2, 1, 0, 0, 0, 0)],
  [(960, .invokevirtual 128, 3, 98, 0, 1585, 0), (963, .if_icmp .eq 1294, 3, 0, 0, 0, 0), (968, .aload_n 1, 1, 0, 0, 0, 0), (969, .aload_n 0, 1, 0, 0, 0, 0), (970, .iload_n 3, 1, 0, 0, 0, 0), (971, .iconst 1, 1, 0, 0, 0, 0), (972, .iadd, 1, 0, 0, 0, 0), (973, .iaload, 1, 0, 0, 0, 0), (974, .invokevirtual 129, 3, 99, 0, 775, 0), (977, .aload_n 2, 1, 0, 0, 0, 0), (978, .aload_n 0, 1, 0, 0, 0, 0), (979, .iload_n 3, 1, 0, 0, 0, 0), (980, .iconst 1, 1, 0, 0, 0, 0), (981, .iadd, 1, 0, 0, 0, 0), (982, .iaload, 1, 0, 0, 0, 0), (983, .invokevirtual 132, 3, 100, 0, 1592, 0), (986, .if_icmp .eq 1271, 3, 0, 0, 0, 0), (991, .aload_n 1, 1, 0, 0, 0, 0)],
  [(992, .aload_n 0, 1, 0, 0, 0, 0), (993, .iload_n 3, 1, 0, 0, 0, 0), (994, .iconst 1, 1, 0, 0, 0, 0), (995, .iadd, 1, 0, 0, 0, 0), (996, .iaload, 1, 0, 0, 0, 0), (997, .aload_n 0, 1, 0, 0, 0, 0), (998, .iload_n 3, 1, 0, 0, 0, 0), (999, .iconst 2, 1, 0, 0, 0, 0), (1000, .iadd, 1, 0, 0, 0, 0), (1001, .iaload, 1, 0, 0, 0, 0), (1002, .invokevirtual 133, 3, 101, 0, 783, 0), (1005, .aload_n 2, 1, 0, 0, 0, 0), (1006, .aload_n 0, 1, 0, 0, 0, 0), (1007, .iload_n 3, 1, 0, 0, 0, 0), (1008, .iconst 1, 1, 0, 0, 0, 0), (1009, .iadd, 1, 0, 0, 0, 0), (1010, .iaload, 1, 0, 0, 0, 0), (1011, .aload_n 0, 1, 0, 0, 0, 0), (1012, .iload_n 3, 1, 0, 0, 0, 0), (1013, .iconst 2, 1, 0, 0, 0, 0), (1014, .iadd, 1, 0, 0, 0, 0), (1015, .iaload, 1, 0, 0, 0, 0), (1016, .invokevirtual 136, 3, 102, 0, 1596, 0), (1019, .if_icmp .eq 1238, 3, 0, 0, 0, 0)],
  [(1024, .aload_n 1, 1, 0, 0, 0, 0), (1025, .aload_n 0, 1, 0, 0, 0, 0), (1026, .iload_n 3, 1, 0, 0, 0, 0), (1027, .iconst 1, 1, 0, 0, 0, 0), (1028, .iadd, 1, 0, 0, 0, 0), (1029, .iaload, 1, 0, 0, 0, 0), (1030, .invokevirtual 137, 3, 103, 0, 787, 0), (1033, .aload_n 2, 1, 0, 0, 0, 0), (1034, .aload_n 0, 1, 0, 0, 0, 0), (1035, .iload_n 3, 1, 0, 0, 0, 0), (1036, .iconst 1, 1, 0, 0, 0, 0), (1037, .iadd, 1, 0, 0, 0, 0), (1038, .iaload, 1, 0, 0, 0, 0), (1039, .invokevirtual 140, 3, 104, 0, 1600, 0), (1042, .if_icmp .eq 1215, 3, 0, 0, 0, 0), (1047, .aload_n 1, 1, 0, 0, 0, 0), (1048, .aload_n 0, 1, 0, 0, 0, 0), (1049, .iload_n 3, 1, 0, 0, 0, 0), (1050, .iconst 1, 1, 0, 0, 0, 0), (1051, .iadd, 1, 0, 0, 0, 0), (1052, .iaload, 1, 0, 0, 0, 0), (1053, .invokevirtual 141, 3, 105, 0, 791, 0)],
  [(1056, .aload_n 2, 1, 0, 0, 0, 0), (1057, .aload_n 0, 1, 0, 0, 0, 0), (1058, .iload_n 3, 1, 0, 0, 0, 0), (1059, .iconst 1, 1, 0, 0, 0, 0), (1060, .iadd, 1, 0, 0, 0, 0), (1061, .iaload, 1, 0, 0, 0, 0), (1062, .invokevirtual 144, 3, 106, 0, 1510, 0), (1065, .if_icmp .eq 1192, 3, 0, 0, 0, 0), (1070, .aload_n 1, 1, 0, 0, 0, 0), (1071, .aload_n 0, 1, 0, 0, 0, 0), (1072, .iload_n 3, 1, 0, 0, 0, 0), (1073, .iconst 1, 1, 0, 0, 0, 0), (1074, .iadd, 1, 0, 0, 0, 0), (1075, .iaload, 1, 0, 0, 0, 0), (1076, .invokevirtual 145, 3, 107, 0, 795, 0), (1079, .aload_n 2, 1, 0, 0, 0, 0), (1080, .aload_n 0, 1, 0, 0, 0, 0), (1081, .iload_n 3, 1, 0, 0, 0, 0), (1082, .iconst 1, 1, 0, 0, 0, 0), (1083, .iadd, 1, 0, 0, 0, 0), (1084, .iaload, 1, 0, 0, 0, 0), (1085, .invokevirtual 148, 3, 108, 0, 1604, 0)],
  [(1088, .if_icmp .eq 1169, 3, 0, 0, 0, 0), (1093, .aload_n 1, 1, 0, 0, 0, 0), (1094, .invokevirtual 149, 3, 109, 0, 800, 0), (1097, .aload_n 2, 1, 0, 0, 0, 0), (1098, .invokevirtual 152, 3, 110, 0, 1608, 0), (1101, .if_icmp .eq 1156, 3, 0, 0, 0, 0), (1106, .aload_n 1, 1, 0, 0, 0, 0), (1107, .invokevirtual 153, 3, 111, 0, 804, 0), (1110, .aload_n 2, 1, 0, 0, 0, 0), (1111, .invokevirtual 156, 3, 112, 0, 1612, 0), (1114, .if_icmp .eq 1143, 3, 0, 0, 0, 0), (1119, .aload_n 1, 1, 0, 0, 0, 0)],
  [(1120, .invokevirtual 157, 3, 113, 0, 808, 0), (1123, .aload_n 2, 1, 0, 0, 0, 0), (1124, .invokevirtual 160, 3, 114, 0, 1616, 0), (1127, .if_icmp .eq 1130, 3, 0, 0, 0, 0), (1132, .aload_n 1, 1, 0, 0, 0, 0), (1133, .aload_n 0, 1, 0, 0, 0, 0), (1134, .iload_n 3, 1, 0, 0, 0, 0), (1135, .iconst 1, 1, 0, 0, 0, 0), (1136, .iadd, 1, 0, 0, 0, 0), (1137, .iaload, 1, 0, 0, 0, 0), (1138, .invokevirtual 161, 3, 115, 0, 813, 0), (1141, .aload_n 2, 1, 0, 0, 0, 0), (1142, .aload_n 0, 1, 0, 0, 0, 0), (1143, .iload_n 3, 1, 0, 0, 0, 0), (1144, .iconst 1, 1, 0, 0, 0, 0), (1145, .iadd, 1, 0, 0, 0, 0), (1146, .iaload, 1, 0, 0, 0, 0), (1147, .invokevirtual 164, 3, 116, 0, 1621, 0), (1150, .if_icmp .eq 1107, 3, 0, 0, 0, 0)],
  [(1155, .aload_n 1, 1, 0, 0, 0, 0), (1156, .aload_n 0, 1, 0, 0, 0, 0), (1157, .iload_n 3, 1, 0, 0, 0, 0), (1158, .iconst 1, 1, 0, 0, 0, 0), (1159, .iadd, 1, 0, 0, 0, 0), (1160, .iaload, 1, 0, 0, 0, 0), (1161, .invokevirtual 165, 3, 117, 0, 817, 0), (1164, .aload_n 2, 1, 0, 0, 0, 0), (1165, .aload_n 0, 1, 0, 0, 0, 0), (1166, .iload_n 3, 1, 0, 0, 0, 0), (1167, .iconst 1, 1, 0, 0, 0, 0), (1168, .iadd, 1, 0, 0, 0, 0), (1169, .iaload, 1, 0, 0, 0, 0), (1170, .invokevirtual 168, 3, 118, 0, 1625, 0), (1173, .if_icmp .eq 1084, 3, 0, 0, 0, 0), (1178, .aload_n 1, 1, 0, 0, 0, 0), (1179, .aload_n 0, 1, 0, 0, 0, 0), (1180, .iload_n 3, 1, 0, 0, 0, 0), (1181, .iconst 1, 1, 0, 0, 0, 0), (1182, .iadd, 1, 0, 0, 0, 0), (1183, .iaload, 1, 0, 0, 0, 0)],
  [(1184, .invokevirtual 169, 3, 119, 0, 821, 0), (1187, .aload_n 2, 1, 0, 0, 0, 0), (1188, .aload_n 0, 1, 0, 0, 0, 0), (1189, .iload_n 3, 1, 0, 0, 0, 0), (1190, .iconst 1, 1, 0, 0, 0, 0), (1191, .iadd, 1, 0, 0, 0, 0), (1192, .iaload, 1, 0, 0, 0, 0), (1193, .invokevirtual 172, 3, 120, 0, 1629, 0), (1196, .if_icmp .eq 1061, 3, 0, 0, 0, 0), (1201, .aload_n 1, 1, 0, 0, 0, 0), (1202, .aload_n 0, 1, 0, 0, 0, 0), (1203, .iload_n 3, 1, 0, 0, 0, 0), (1204, .iconst 1, 1, 0, 0, 0, 0), (1205, .iadd, 1, 0, 0, 0, 0), (1206, .iaload, 1, 0, 0, 0, 0), (1207, .invokevirtual 173, 3, 121, 0, 825, 0), (1210, .aload_n 2, 1, 0, 0, 0, 0), (1211, .aload_n 0, 1, 0, 0, 0, 0), (1212, .iload_n 3, 1, 0, 0, 0, 0), (1213, .iconst 1, 1, 0, 0, 0, 0), (1214, .iadd, 1, 0, 0, 0, 0), (1215, .iaload, 1, 0, 0, 0, 0)],
  [(1216, .invokevirtual 176, 3, 122, 0, 1633, 0), (1219, .if_icmp .eq 1038, 3, 0, 0, 0, 0), (1224, .aload_n 1, 1, 0, 0, 0, 0), (1225, .aload_n 0, 1, 0, 0, 0, 0), (1226, .iload_n 3, 1, 0, 0, 0, 0), (1227, .iconst 1, 1, 0, 0, 0, 0), (1228, .iadd, 1, 0, 0, 0, 0), (1229, .iaload, 1, 0, 0, 0, 0), (1230, .invokevirtual 177, 3, 123, 0, 836, 0), (1233, .aload_n 2, 1, 0, 0, 0, 0), (1234, .aload_n 0, 1, 0, 0, 0, 0), (1235, .iload_n 3, 1, 0, 0, 0, 0), (1236, .iconst 1, 1, 0, 0, 0, 0), (1237, .iadd, 1, 0, 0, 0, 0), (1238, .iaload, 1, 0, 0, 0, 0), (1239, .invokevirtual 180, 3, 124, 0, 1640, 0), (1242, .if_icmp .eq 1015, 3, 0, 0, 0, 0), (1247, .aload_n 1, 1, 0, 0, 0, 0)],
  [(1248, .invokevirtual 181, 3, 125, 0, 843, 0), (1251, .aload_n 2, 1, 0, 0, 0, 0), (1252, .invokevirtual 184, 3, 126, 0, 1647, 0), (1255, .if_icmp .eq 1002, 3, 0, 0, 0, 0), (1260, .aload_n 1, 1, 0, 0, 0, 0), (1261, .invokevirtual 185, 3, 127, 0, 847, 0), (1264, .aload_n 2, 1, 0, 0, 0, 0), (1265, .invokevirtual 188, 3, 128, 0, 1651, 0), (1268, .if_icmp .eq 989, 3, 0, 0, 0, 0), (1273, .aload_n 1, 1, 0, 0, 0, 0), (1274, .invokevirtual 189, 3, 129, 0, 854, 0), (1277, .aload_n 2, 1, 0, 0, 0, 0), (1278, .invokevirtual 192, 3, 130, 0, 1655, 0)],
  [(1281, .if_icmp .eq 976, 3, 0, 0, 0, 0), (1286, .aload_n 1, 1, 0, 0, 0, 0), (1287, .aload_n 0, 1, 0, 0, 0, 0), (1288, .iload_n 3, 1, 0, 0, 0, 0), (1289, .iconst 1, 1, 0, 0, 0, 0), (1290, .iadd, 1, 0, 0, 0, 0), (1291, .iaload, 1, 0, 0, 0, 0), (1292, .invokevirtual 193, 3, 131, 0, 861, 0), (1295, .aload_n 2, 1, 0, 0, 0, 0), (1296, .aload_n 0, 1, 0, 0, 0, 0), (1297, .iload_n 3, 1, 0, 0, 0, 0), (1298, .iconst 1, 1, 0, 0, 0, 0), (1299, .iadd, 1, 0, 0, 0, 0), (1300, .iaload, 1, 0, 0, 0, 0), (1301, .invokevirtual 196, 3, 133, 0, 1659, 0), (1304, .if_icmp .eq 953, 3, 0, 0, 0, 0), (1309, .aload_n 1, 1, 0, 0, 0, 0), (1310, .aload_n 0, 1, 0, 0, 0, 0), (1311, .iload_n 3, 1, 0, 0, 0, 0)],
  [(1312, .iconst 1, 1, 0, 0, 0, 0), (1313, .iadd, 1, 0, 0, 0, 0), (1314, .iaload, 1, 0, 0, 0, 0), (1315, .aload_n 0, 1, 0, 0, 0, 0), (1316, .iload_n 3, 1, 0, 0, 0, 0), (1317, .iconst 2, 1, 0, 0, 0, 0), (1318, .iadd, 1, 0, 0, 0, 0), (1319, .iaload, 1, 0, 0, 0, 0), (1320, .invokevirtual 197, 3, 135, 0, 889, 0), (1323, .aload_n 2, 1, 0, 0, 0, 0), (1324, .aload_n 0, 1, 0, 0, 0, 0), (1325, .iload_n 3, 1, 0, 0, 0, 0), (1326, .iconst 1, 1, 0, 0, 0, 0), (1327, .iadd, 1, 0, 0, 0, 0), (1328, .iaload, 1, 0, 0, 0, 0), (1329, .aload_n 0, 1, 0, 0, 0, 0), (1330, .iload_n 3, 1, 0, 0, 0, 0), (1331, .iconst 2, 1, 0, 0, 0, 0), (1332, .iadd, 1, 0, 0, 0, 0), (1333, .iaload, 1, 0, 0, 0, 0), (1334, .invokevirtual 200, 3, 136, 0, 1672, 0), (1337, .if_icmp .eq 920, 3, 0, 0, 0, 0), (1342, .aload_n 1, 1, 0, 0, 0, 0), (1343, .aload_n 0, 1, 0, 0, 0, 0)],
  [(1344, .iload_n 3, 1, 0, 0, 0, 0), (1345, .iconst 1, 1, 0, 0, 0, 0), (1346, .iadd, 1, 0, 0, 0, 0), (1347, .iaload, 1, 0, 0, 0, 0), (1348, .invokevirtual 201, 3, 137, 0, 893, 0), (1351, .aload_n 2, 1, 0, 0, 0, 0), (1352, .aload_n 0, 1, 0, 0, 0, 0), (1353, .iload_n 3, 1, 0, 0, 0, 0), (1354, .iconst 1, 1, 0, 0, 0, 0), (1355, .iadd, 1, 0, 0, 0, 0), (1356, .iaload, 1, 0, 0, 0, 0), (1357, .invokevirtual 204, 3, 138, 0, 1676, 0), (1360, .if_icmp .eq 897, 3, 0, 0, 0, 0), (1365, .aload_n 1, 1, 0, 0, 0, 0), (1366, .aload_n 0, 1, 0, 0, 0, 0), (1367, .iload_n 3, 1, 0, 0, 0, 0), (1368, .iconst 1, 1, 0, 0, 0, 0), (1369, .iadd, 1, 0, 0, 0, 0), (1370, .iaload, 1, 0, 0, 0, 0), (1371, .aload_n 0, 1, 0, 0, 0, 0), (1372, .iload_n 3, 1, 0, 0, 0, 0), (1373, .iconst 2, 1, 0, 0, 0, 0), (1374, .iadd, 1, 0, 0, 0, 0), (1375, .iaload, 1, 0, 0, 0, 0)],
  [(1376, .invokevirtual 205, 3, 139, 0, 897, 0), (1379, .aload_n 2, 1, 0, 0, 0, 0), (1380, .aload_n 0, 1, 0, 0, 0, 0), (1381, .iload_n 3, 1, 0, 0, 0, 0), (1382, .iconst 1, 1, 0, 0, 0, 0), (1383, .iadd, 1, 0, 0, 0, 0), (1384, .iaload, 1, 0, 0, 0, 0), (1385, .aload_n 0, 1, 0, 0, 0, 0), (1386, .iload_n 3, 1, 0, 0, 0, 0), (1387, .iconst 2, 1, 0, 0, 0, 0), (1388, .iadd, 1, 0, 0, 0, 0), (1389, .iaload, 1, 0, 0, 0, 0), (1390, .invokevirtual 208, 3, 141, 0, 1680, 0), (1393, .if_icmp .eq 864, 3, 0, 0, 0, 0), (1398, .aload_n 1, 1, 0, 0, 0, 0), (1399, .aload_n 0, 1, 0, 0, 0, 0), (1400, .iload_n 3, 1, 0, 0, 0, 0), (1401, .iconst 1, 1, 0, 0, 0, 0), (1402, .iadd, 1, 0, 0, 0, 0), (1403, .iaload, 1, 0, 0, 0, 0), (1404, .aload_n 0, 1, 0, 0, 0, 0), (1405, .iload_n 3, 1, 0, 0, 0, 0), (1406, .iconst 2, 1, 0, 0, 0, 0), (1407, .iadd, 1, 0, 0, 0, 0)],
  [(1408, .iaload, 1, 0, 0, 0, 0), (1409, .invokevirtual 209, 3, 144, 0, 930, 0), (1412, .aload_n 2, 1, 0, 0, 0, 0), (1413, .aload_n 0, 1, 0, 0, 0, 0), (1414, .iload_n 3, 1, 0, 0, 0, 0), (1415, .iconst 1, 1, 0, 0, 0, 0), (1416, .iadd, 1, 0, 0, 0, 0), (1417, .iaload, 1, 0, 0, 0, 0), (1418, .aload_n 0, 1, 0, 0, 0, 0), (1419, .iload_n 3, 1, 0, 0, 0, 0), (1420, .iconst 2, 1, 0, 0, 0, 0), (1421, .iadd, 1, 0, 0, 0, 0), (1422, .iaload, 1, 0, 0, 0, 0), (1423, .invokevirtual 212, 3, 145, 0, 1693, 0), (1426, .if_icmp .eq 831, 3, 0, 0, 0, 0), (1431, .aload_n 1, 1, 0, 0, 0, 0), (1432, .aload_n 0, 1, 0, 0, 0, 0), (1433, .iload_n 3, 1, 0, 0, 0, 0), (1434, .iconst 1, 1, 0, 0, 0, 0), (1435, .iadd, 1, 0, 0, 0, 0), (1436, .iaload, 1, 0, 0, 0, 0), (1437, .aload_n 0, 1, 0, 0, 0, 0), (1438, .iload_n 3, 1, 0, 0, 0, 0), (1439, .iconst 2, 1, 0, 0, 0, 0)],
  [(1440, .iadd, 1, 0, 0, 0, 0), (1441, .iaload, 1, 0, 0, 0, 0), (1442, .invokevirtual 213, 3, 146, 0, 934, 0), (1445, .aload_n 2, 1, 0, 0, 0, 0), (1446, .aload_n 0, 1, 0, 0, 0, 0), (1447, .iload_n 3, 1, 0, 0, 0, 0), (1448, .iconst 1, 1, 0, 0, 0, 0), (1449, .iadd, 1, 0, 0, 0, 0), (1450, .iaload, 1, 0, 0, 0, 0), (1451, .aload_n 0, 1, 0, 0, 0, 0), (1452, .iload_n 3, 1, 0, 0, 0, 0), (1453, .iconst 2, 1, 0, 0, 0, 0), (1454, .iadd, 1, 0, 0, 0, 0), (1455, .iaload, 1, 0, 0, 0, 0), (1456, .invokevirtual 216, 3, 147, 0, 1697, 0), (1459, .if_icmp .eq 798, 3, 0, 0, 0, 0), (1464, .aload_n 1, 1, 0, 0, 0, 0), (1465, .aload_n 0, 1, 0, 0, 0, 0), (1466, .iload_n 3, 1, 0, 0, 0, 0), (1467, .iconst 1, 1, 0, 0, 0, 0), (1468, .iadd, 1, 0, 0, 0, 0), (1469, .iaload, 1, 0, 0, 0, 0), (1470, .aload_n 0, 1, 0, 0, 0, 0), (1471, .iload_n 3, 1, 0, 0, 0, 0)],
  [(1472, .iconst 2, 1, 0, 0, 0, 0), (1473, .iadd, 1, 0, 0, 0, 0), (1474, .iaload, 1, 0, 0, 0, 0), (1475, .invokevirtual 217, 3, 148, 0, 938, 0), (1478, .aload_n 2, 1, 0, 0, 0, 0), (1479, .aload_n 0, 1, 0, 0, 0, 0), (1480, .iload_n 3, 1, 0, 0, 0, 0), (1481, .iconst 1, 1, 0, 0, 0, 0), (1482, .iadd, 1, 0, 0, 0, 0), (1483, .iaload, 1, 0, 0, 0, 0), (1484, .aload_n 0, 1, 0, 0, 0, 0), (1485, .iload_n 3, 1, 0, 0, 0, 0), (1486, .iconst 2, 1, 0, 0, 0, 0), (1487, .iadd, 1, 0, 0, 0, 0), (1488, .iaload, 1, 0, 0, 0, 0), (1489, .invokevirtual 220, 3, 149, 0, 1701, 0), (1492, .if_icmp .eq 765, 3, 0, 0, 0, 0), (1497, .aload_n 1, 1, 0, 0, 0, 0), (1498, .aload_n 0, 1, 0, 0, 0, 0), (1499, .iload_n 3, 1, 0, 0, 0, 0), (1500, .iconst 1, 1, 0, 0, 0, 0), (1501, .iadd, 1, 0, 0, 0, 0), (1502, .iaload, 1, 0, 0, 0, 0), (1503, .aload_n 0, 1, 0, 0, 0, 0)],
  [(1504, .iload_n 3, 1, 0, 0, 0, 0), (1505, .iconst 2, 1, 0, 0, 0, 0), (1506, .iadd, 1, 0, 0, 0, 0), (1507, .iaload, 1, 0, 0, 0, 0), (1508, .invokevirtual 221, 3, 150, 0, 951, 0), (1511, .aload_n 2, 1, 0, 0, 0, 0), (1512, .aload_n 0, 1, 0, 0, 0, 0), (1513, .iload_n 3, 1, 0, 0, 0, 0), (1514, .iconst 1, 1, 0, 0, 0, 0), (1515, .iadd, 1, 0, 0, 0, 0), (1516, .iaload, 1, 0, 0, 0, 0), (1517, .aload_n 0, 1, 0, 0, 0, 0), (1518, .iload_n 3, 1, 0, 0, 0, 0), (1519, .iconst 2, 1, 0, 0, 0, 0), (1520, .iadd, 1, 0, 0, 0, 0), (1521, .iaload, 1, 0, 0, 0, 0), (1522, .invokevirtual 224, 3, 151, 0, 1705, 0), (1525, .if_icmp .eq 732, 3, 0, 0, 0, 0), (1530, .aload_n 1, 1, 0, 0, 0, 0), (1531, .aload_n 0, 1, 0, 0, 0, 0), (1532, .iload_n 3, 1, 0, 0, 0, 0), (1533, .iconst 1, 1, 0, 0, 0, 0), (1534, .iadd, 1, 0, 0, 0, 0), (1535, .iaload, 1, 0, 0, 0, 0)],
  [(1536, .invokevirtual 225, 3, 152, 0, 956, 0), (1539, .aload_n 2, 1, 0, 0, 0, 0), (1540, .aload_n 0, 1, 0, 0, 0, 0), (1541, .iload_n 3, 1, 0, 0, 0, 0), (1542, .iconst 1, 1, 0, 0, 0, 0), (1543, .iadd, 1, 0, 0, 0, 0), (1544, .iaload, 1, 0, 0, 0, 0), (1545, .invokevirtual 228, 3, 153, 0, 1709, 0), (1548, .if_icmp .eq 709, 3, 0, 0, 0, 0), (1553, .aload_n 1, 1, 0, 0, 0, 0), (1554, .aload_n 0, 1, 0, 0, 0, 0), (1555, .iload_n 3, 1, 0, 0, 0, 0), (1556, .iconst 1, 1, 0, 0, 0, 0), (1557, .iadd, 1, 0, 0, 0, 0), (1558, .iaload, 1, 0, 0, 0, 0), (1559, .invokevirtual 229, 3, 154, 0, 960, 0), (1562, .aload_n 2, 1, 0, 0, 0, 0), (1563, .aload_n 0, 1, 0, 0, 0, 0), (1564, .iload_n 3, 1, 0, 0, 0, 0), (1565, .iconst 1, 1, 0, 0, 0, 0), (1566, .iadd, 1, 0, 0, 0, 0), (1567, .iaload, 1, 0, 0, 0, 0)],
  [(1568, .invokevirtual 232, 3, 155, 0, 1716, 0), (1571, .if_icmp .eq 686, 3, 0, 0, 0, 0), (1576, .aload_n 1, 1, 0, 0, 0, 0), (1577, .invokevirtual 233, 3, 156, 0, 967, 0), (1580, .aload_n 2, 1, 0, 0, 0, 0), (1581, .invokevirtual 236, 3, 157, 0, 1720, 0), (1584, .if_icmp .eq 673, 3, 0, 0, 0, 0), (1589, .aload_n 1, 1, 0, 0, 0, 0), (1590, .aload_n 0, 1, 0, 0, 0, 0), (1591, .iload_n 3, 1, 0, 0, 0, 0), (1592, .iconst 1, 1, 0, 0, 0, 0), (1593, .iadd, 1, 0, 0, 0, 0), (1594, .iaload, 1, 0, 0, 0, 0), (1595, .invokevirtual 237, 3, 158, 0, 971, 0), (1598, .aload_n 2, 1, 0, 0, 0, 0), (1599, .aload_n 0, 1, 0, 0, 0, 0)],
  [(1600, .iload_n 3, 1, 0, 0, 0, 0), (1601, .iconst 1, 1, 0, 0, 0, 0), (1602, .iadd, 1, 0, 0, 0, 0), (1603, .iaload, 1, 0, 0, 0, 0), (1604, .invokevirtual 240, 3, 159, 0, 1724, 0), (1607, .if_icmp .eq 650, 3, 0, 0, 0, 0), (1612, .aload_n 1, 1, 0, 0, 0, 0), (1613, .aload_n 0, 1, 0, 0, 0, 0), (1614, .iload_n 3, 1, 0, 0, 0, 0), (1615, .iconst 1, 1, 0, 0, 0, 0), (1616, .iadd, 1, 0, 0, 0, 0), (1617, .iaload, 1, 0, 0, 0, 0), (1618, .aload_n 0, 1, 0, 0, 0, 0), (1619, .iload_n 3, 1, 0, 0, 0, 0), (1620, .iconst 2, 1, 0, 0, 0, 0), (1621, .iadd, 1, 0, 0, 0, 0), (1622, .iaload, 1, 0, 0, 0, 0), (1623, .invokevirtual 241, 3, 160, 0, 982, 0), (1626, .aload_n 2, 1, 0, 0, 0, 0), (1627, .aload_n 0, 1, 0, 0, 0, 0), (1628, .iload_n 3, 1, 0, 0, 0, 0), (1629, .iconst 1, 1, 0, 0, 0, 0), (1630, .iadd, 1, 0, 0, 0, 0), (1631, .iaload, 1, 0, 0, 0, 0)],
  [(1632, .aload_n 0, 1, 0, 0, 0, 0), (1633, .iload_n 3, 1, 0, 0, 0, 0), (1634, .iconst 2, 1, 0, 0, 0, 0), (1635, .iadd, 1, 0, 0, 0, 0), (1636, .iaload, 1, 0, 0, 0, 0), (1637, .invokevirtual 244, 3, 161, 0, 1731, 0), (1640, .if_icmp .eq 617, 3, 0, 0, 0, 0), (1645, .aload_n 1, 1, 0, 0, 0, 0), (1646, .aload_n 0, 1, 0, 0, 0, 0), (1647, .iload_n 3, 1, 0, 0, 0, 0), (1648, .iconst 1, 1, 0, 0, 0, 0), (1649, .iadd, 1, 0, 0, 0, 0), (1650, .iaload, 1, 0, 0, 0, 0), (1651, .aload_n 0, 1, 0, 0, 0, 0), (1652, .iload_n 3, 1, 0, 0, 0, 0), (1653, .iconst 2, 1, 0, 0, 0, 0), (1654, .iadd, 1, 0, 0, 0, 0), (1655, .iaload, 1, 0, 0, 0, 0), (1656, .invokevirtual 245, 3, 162, 0, 996, 0), (1659, .aload_n 2, 1, 0, 0, 0, 0), (1660, .aload_n 0, 1, 0, 0, 0, 0), (1661, .iload_n 3, 1, 0, 0, 0, 0), (1662, .iconst 1, 1, 0, 0, 0, 0), (1663, .iadd, 1, 0, 0, 0, 0)],
  [(1664, .iaload, 1, 0, 0, 0, 0), (1665, .aload_n 0, 1, 0, 0, 0, 0), (1666, .iload_n 3, 1, 0, 0, 0, 0), (1667, .iconst 2, 1, 0, 0, 0, 0), (1668, .iadd, 1, 0, 0, 0, 0), (1669, .iaload, 1, 0, 0, 0, 0), (1670, .invokevirtual 248, 3, 164, 0, 1745, 0), (1673, .if_icmp .eq 584, 3, 0, 0, 0, 0), (1678, .aload_n 1, 1, 0, 0, 0, 0), (1679, .aload_n 0, 1, 0, 0, 0, 0), (1680, .iload_n 3, 1, 0, 0, 0, 0), (1681, .iconst 1, 1, 0, 0, 0, 0), (1682, .iadd, 1, 0, 0, 0, 0), (1683, .iaload, 1, 0, 0, 0, 0), (1684, .aload_n 0, 1, 0, 0, 0, 0), (1685, .iload_n 3, 1, 0, 0, 0, 0), (1686, .iconst 2, 1, 0, 0, 0, 0), (1687, .iadd, 1, 0, 0, 0, 0), (1688, .iaload, 1, 0, 0, 0, 0), (1689, .aload_n 0, 1, 0, 0, 0, 0), (1690, .iload_n 3, 1, 0, 0, 0, 0), (1691, .iconst 3, 1, 0, 0, 0, 0), (1692, .iadd, 1, 0, 0, 0, 0), (1693, .iaload, 1, 0, 0, 0, 0), (1694, .aload_n 0, 1, 0, 0, 0, 0), (1695, .iload_n 3, 1, 0, 0, 0, 0)],
  [(1696, .iconst 4, 1, 0, 0, 0, 0), (1697, .iadd, 1, 0, 0, 0, 0), (1698, .iaload, 1, 0, 0, 0, 0), (1699, .invokevirtual 249, 3, 166, 0, 1009, 0), (1702, .aload_n 2, 1, 0, 0, 0, 0), (1703, .aload_n 0, 1, 0, 0, 0, 0), (1704, .iload_n 3, 1, 0, 0, 0, 0), (1705, .iconst 1, 1, 0, 0, 0, 0), (1706, .iadd, 1, 0, 0, 0, 0), (1707, .iaload, 1, 0, 0, 0, 0), (1708, .aload_n 0, 1, 0, 0, 0, 0), (1709, .iload_n 3, 1, 0, 0, 0, 0), (1710, .iconst 2, 1, 0, 0, 0, 0), (1711, .iadd, 1, 0, 0, 0, 0), (1712, .iaload, 1, 0, 0, 0, 0), (1713, .aload_n 0, 1, 0, 0, 0, 0), (1714, .iload_n 3, 1, 0, 0, 0, 0), (1715, .iconst 3, 1, 0, 0, 0, 0), (1716, .iadd, 1, 0, 0, 0, 0), (1717, .iaload, 1, 0, 0, 0, 0), (1718, .aload_n 0, 1, 0, 0, 0, 0), (1719, .iload_n 3, 1, 0, 0, 0, 0), (1720, .iconst 4, 1, 0, 0, 0, 0), (1721, .iadd, 1, 0, 0, 0, 0), (1722, .iaload, 1, 0, 0, 0, 0), (1723, .invokevirtual 253, 3, 167, 0, 1755, 0), (1726, .if_icmp .eq 531, 3, 0, 0, 0, 0)],
  [(1731, .aload_n 1, 1, 0, 0, 0, 0), (1732, .aload_n 0, 1, 0, 0, 0, 0), (1733, .iload_n 3, 1, 0, 0, 0, 0), (1734, .iconst 1, 1, 0, 0, 0, 0), (1735, .iadd, 1, 0, 0, 0, 0), (1736, .iaload, 1, 0, 0, 0, 0), (1737, .aload_n 0, 1, 0, 0, 0, 0), (1738, .iload_n 3, 1, 0, 0, 0, 0), (1739, .iconst 2, 1, 0, 0, 0, 0), (1740, .iadd, 1, 0, 0, 0, 0), (1741, .iaload, 1, 0, 0, 0, 0), (1742, .aload_n 0, 1, 0, 0, 0, 0), (1743, .iload_n 3, 1, 0, 0, 0, 0), (1744, .iconst 3, 1, 0, 0, 0, 0), (1745, .iadd, 1, 0, 0, 0, 0), (1746, .iaload, 1, 0, 0, 0, 0), (1747, .invokevirtual 254, 3, 168, 0, 1013, 0), (1750, .aload_n 2, 1, 0, 0, 0, 0), (1751, .aload_n 0, 1, 0, 0, 0, 0), (1752, .iload_n 3, 1, 0, 0, 0, 0), (1753, .iconst 1, 1, 0, 0, 0, 0), (1754, .iadd, 1, 0, 0, 0, 0), (1755, .iaload, 1, 0, 0, 0, 0), (1756, .aload_n 0, 1, 0, 0, 0, 0), (1757, .iload_n 3, 1, 0, 0, 0, 0), (1758, .iconst 2, 1, 0, 0, 0, 0), (1759, .iadd, 1, 0, 0, 0, 0)],
  [(1760, .iaload, 1, 0, 0, 0, 0), (1761, .aload_n 0, 1, 0, 0, 0, 0), (1762, .iload_n 3, 1, 0, 0, 0, 0), (1763, .iconst 3, 1, 0, 0, 0, 0), (1764, .iadd, 1, 0, 0, 0, 0), (1765, .iaload, 1, 0, 0, 0, 0), (1766, .invokevirtual 258, 3, 169, 0, 1759, 0), (1769, .if_icmp .eq 488, 3, 0, 0, 0, 0), (1774, .aload_n 1, 1, 0, 0, 0, 0), (1775, .aload_n 0, 1, 0, 0, 0, 0), (1776, .iload_n 3, 1, 0, 0, 0, 0), (1777, .iconst 1, 1, 0, 0, 0, 0), (1778, .iadd, 1, 0, 0, 0, 0), (1779, .iaload, 1, 0, 0, 0, 0), (1780, .aload_n 0, 1, 0, 0, 0, 0), (1781, .iload_n 3, 1, 0, 0, 0, 0), (1782, .iconst 2, 1, 0, 0, 0, 0), (1783, .iadd, 1, 0, 0, 0, 0), (1784, .iaload, 1, 0, 0, 0, 0), (1785, .invokevirtual 259, 3, 170, 0, 1026, 0), (1788, .aload_n 2, 1, 0, 0, 0, 0), (1789, .aload_n 0, 1, 0, 0, 0, 0), (1790, .iload_n 3, 1, 0, 0, 0, 0), (1791, .iconst 1, 1, 0, 0, 0, 0)],
  [(1792, .iadd, 1, 0, 0, 0, 0), (1793, .iaload, 1, 0, 0, 0, 0), (1794, .aload_n 0, 1, 0, 0, 0, 0), (1795, .iload_n 3, 1, 0, 0, 0, 0), (1796, .iconst 2, 1, 0, 0, 0, 0), (1797, .iadd, 1, 0, 0, 0, 0), (1798, .iaload, 1, 0, 0, 0, 0), (1799, .invokevirtual 263, 3, 172, 0, 1773, 0), (1802, .lcmp, 1, 0, 0, 0, 0), (1803, .ifCond .eq 454, 3, 0, 0, 0, 0), (1808, .aload_n 1, 1, 0, 0, 0, 0), (1809, .aload_n 0, 1, 0, 0, 0, 0), (1810, .iload_n 3, 1, 0, 0, 0, 0), (1811, .iconst 1, 1, 0, 0, 0, 0), (1812, .iadd, 1, 0, 0, 0, 0), (1813, .iaload, 1, 0, 0, 0, 0), (1814, .aload_n 0, 1, 0, 0, 0, 0), (1815, .iload_n 3, 1, 0, 0, 0, 0), (1816, .iconst 2, 1, 0, 0, 0, 0), (1817, .iadd, 1, 0, 0, 0, 0), (1818, .iaload, 1, 0, 0, 0, 0), (1819, .invokevirtual 264, 3, 174, 0, 1031, 0), (1822, .aload_n 2, 1, 0, 0, 0, 0), (1823, .aload_n 0, 1, 0, 0, 0, 0)],
  [(1824, .iload_n 3, 1, 0, 0, 0, 0), (1825, .iconst 1, 1, 0, 0, 0, 0), (1826, .iadd, 1, 0, 0, 0, 0), (1827, .iaload, 1, 0, 0, 0, 0), (1828, .aload_n 0, 1, 0, 0, 0, 0), (1829, .iload_n 3, 1, 0, 0, 0, 0), (1830, .iconst 2, 1, 0, 0, 0, 0), (1831, .iadd, 1, 0, 0, 0, 0), (1832, .iaload, 1, 0, 0, 0, 0), (1833, .invokevirtual 267, 3, 175, 0, 1798, 0), (1836, .if_icmp .eq 421, 3, 0, 0, 0, 0), (1841, .aload_n 1, 1, 0, 0, 0, 0), (1842, .aload_n 0, 1, 0, 0, 0, 0), (1843, .iload_n 3, 1, 0, 0, 0, 0), (1844, .iconst 1, 1, 0, 0, 0, 0), (1845, .iadd, 1, 0, 0, 0, 0), (1846, .iaload, 1, 0, 0, 0, 0), (1847, .aload_n 0, 1, 0, 0, 0, 0), (1848, .iload_n 3, 1, 0, 0, 0, 0), (1849, .iconst 2, 1, 0, 0, 0, 0), (1850, .iadd, 1, 0, 0, 0, 0), (1851, .iaload, 1, 0, 0, 0, 0), (1852, .invokevirtual 268, 3, 176, 0, 1039, 0), (1855, .aload_n 2, 1, 0, 0, 0, 0)],
  [(1856, .aload_n 0, 1, 0, 0, 0, 0), (1857, .iload_n 3, 1, 0, 0, 0, 0), (1858, .iconst 1, 1, 0, 0, 0, 0), (1859, .iadd, 1, 0, 0, 0, 0), (1860, .iaload, 1, 0, 0, 0, 0), (1861, .aload_n 0, 1, 0, 0, 0, 0), (1862, .iload_n 3, 1, 0, 0, 0, 0), (1863, .iconst 2, 1, 0, 0, 0, 0), (1864, .iadd, 1, 0, 0, 0, 0), (1865, .iaload, 1, 0, 0, 0, 0), (1866, .invokevirtual 271, 3, 177, 0, 1805, 0), (1869, .if_icmp .eq 388, 3, 0, 0, 0, 0), (1874, .aload_n 1, 1, 0, 0, 0, 0), (1875, .invokevirtual 272, 3, 178, 0, 1043, 0), (1878, .aload_n 2, 1, 0, 0, 0, 0), (1879, .invokevirtual 275, 3, 179, 0, 1809, 0), (1882, .if_icmp .eq 375, 3, 0, 0, 0, 0), (1887, .aload_n 1, 1, 0, 0, 0, 0)],
  [(1888, .invokevirtual 276, 3, 180, 0, 1047, 0), (1891, .aload_n 2, 1, 0, 0, 0, 0), (1892, .invokevirtual 279, 3, 181, 0, 1813, 0), (1895, .if_icmp .eq 362, 3, 0, 0, 0, 0), (1900, .aload_n 1, 1, 0, 0, 0, 0), (1901, .aload_n 0, 1, 0, 0, 0, 0), (1902, .iload_n 3, 1, 0, 0, 0, 0), (1903, .iconst 1, 1, 0, 0, 0, 0), (1904, .iadd, 1, 0, 0, 0, 0), (1905, .iaload, 1, 0, 0, 0, 0), (1906, .aload_n 0, 1, 0, 0, 0, 0), (1907, .iload_n 3, 1, 0, 0, 0, 0), (1908, .iconst 2, 1, 0, 0, 0, 0), (1909, .iadd, 1, 0, 0, 0, 0), (1910, .iaload, 1, 0, 0, 0, 0), (1911, .invokevirtual 280, 3, 182, 0, 1051, 0), (1914, .aload_n 2, 1, 0, 0, 0, 0), (1915, .aload_n 0, 1, 0, 0, 0, 0), (1916, .iload_n 3, 1, 0, 0, 0, 0), (1917, .iconst 1, 1, 0, 0, 0, 0), (1918, .iadd, 1, 0, 0, 0, 0), (1919, .iaload, 1, 0, 0, 0, 0)],
  [(1920, .aload_n 0, 1, 0, 0, 0, 0), (1921, .iload_n 3, 1, 0, 0, 0, 0), (1922, .iconst 2, 1, 0, 0, 0, 0), (1923, .iadd, 1, 0, 0, 0, 0), (1924, .iaload, 1, 0, 0, 0, 0), (1925, .invokevirtual 283, 3, 183, 0, 1778, 0), (1928, .if_icmp .eq 329, 3, 0, 0, 0, 0), (1933, .aload_n 1, 1, 0, 0, 0, 0), (1934, .aload_n 0, 1, 0, 0, 0, 0), (1935, .iload_n 3, 1, 0, 0, 0, 0), (1936, .iconst 1, 1, 0, 0, 0, 0), (1937, .iadd, 1, 0, 0, 0, 0), (1938, .iaload, 1, 0, 0, 0, 0), (1939, .aload_n 0, 1, 0, 0, 0, 0), (1940, .iload_n 3, 1, 0, 0, 0, 0), (1941, .iconst 2, 1, 0, 0, 0, 0), (1942, .iadd, 1, 0, 0, 0, 0), (1943, .iaload, 1, 0, 0, 0, 0), (1944, .aload_n 0, 1, 0, 0, 0, 0), (1945, .iload_n 3, 1, 0, 0, 0, 0), (1946, .iconst 3, 1, 0, 0, 0, 0), (1947, .iadd, 1, 0, 0, 0, 0), (1948, .iaload, 1, 0, 0, 0, 0), (1949, .invokevirtual 284, 3, 184, 0, 1067, 0)],
  [(1952, .aload_n 2, 1, 0, 0, 0, 0), (1953, .aload_n 0, 1, 0, 0, 0, 0), (1954, .iload_n 3, 1, 0, 0, 0, 0), (1955, .iconst 1, 1, 0, 0, 0, 0), (1956, .iadd, 1, 0, 0, 0, 0), (1957, .iaload, 1, 0, 0, 0, 0), (1958, .aload_n 0, 1, 0, 0, 0, 0), (1959, .iload_n 3, 1, 0, 0, 0, 0), (1960, .iconst 2, 1, 0, 0, 0, 0), (1961, .iadd, 1, 0, 0, 0, 0), (1962, .iaload, 1, 0, 0, 0, 0), (1963, .aload_n 0, 1, 0, 0, 0, 0), (1964, .iload_n 3, 1, 0, 0, 0, 0), (1965, .iconst 3, 1, 0, 0, 0, 0), (1966, .iadd, 1, 0, 0, 0, 0), (1967, .iaload, 1, 0, 0, 0, 0), (1968, .invokevirtual 287, 3, 185, 0, 1793, 0), (1971, .if_icmp .eq 286, 3, 0, 0, 0, 0), (1976, .aload_n 1, 1, 0, 0, 0, 0), (1977, .aload_n 0, 1, 0, 0, 0, 0), (1978, .iload_n 3, 1, 0, 0, 0, 0), (1979, .iconst 1, 1, 0, 0, 0, 0), (1980, .iadd, 1, 0, 0, 0, 0), (1981, .iaload, 1, 0, 0, 0, 0), (1982, .aload_n 0, 1, 0, 0, 0, 0), (1983, .iload_n 3, 1, 0, 0, 0, 0)],
  [(1984, .iconst 2, 1, 0, 0, 0, 0), (1985, .iadd, 1, 0, 0, 0, 0), (1986, .iaload, 1, 0, 0, 0, 0), (1987, .invokevirtual 288, 3, 187, 0, 1075, 0), (1990, .aload_n 2, 1, 0, 0, 0, 0), (1991, .aload_n 0, 1, 0, 0, 0, 0), (1992, .iload_n 3, 1, 0, 0, 0, 0), (1993, .iconst 1, 1, 0, 0, 0, 0), (1994, .iadd, 1, 0, 0, 0, 0), (1995, .iaload, 1, 0, 0, 0, 0), (1996, .aload_n 0, 1, 0, 0, 0, 0), (1997, .iload_n 3, 1, 0, 0, 0, 0), (1998, .iconst 2, 1, 0, 0, 0, 0), (1999, .iadd, 1, 0, 0, 0, 0), (2000, .iaload, 1, 0, 0, 0, 0), (2001, .invokevirtual 291, 3, 188, 0, 1817, 0), (2004, .if_icmp .eq 253, 3, 0, 0, 0, 0), (2009, .aload_n 1, 1, 0, 0, 0, 0), (2010, .aload_n 0, 1, 0, 0, 0, 0), (2011, .iload_n 3, 1, 0, 0, 0, 0), (2012, .iconst 1, 1, 0, 0, 0, 0), (2013, .iadd, 1, 0, 0, 0, 0), (2014, .iaload, 1, 0, 0, 0, 0), (2015, .invokevirtual 292, 3, 189, 0, 1079, 0)],
  [(2018, .aload_n 2, 1, 0, 0, 0, 0), (2019, .aload_n 0, 1, 0, 0, 0, 0), (2020, .iload_n 3, 1, 0, 0, 0, 0), (2021, .iconst 1, 1, 0, 0, 0, 0), (2022, .iadd, 1, 0, 0, 0, 0), (2023, .iaload, 1, 0, 0, 0, 0), (2024, .invokevirtual 295, 3, 191, 0, 1821, 0), (2027, .if_icmp .eq 230, 3, 0, 0, 0, 0), (2032, .aload_n 1, 1, 0, 0, 0, 0), (2033, .aload_n 0, 1, 0, 0, 0, 0), (2034, .iload_n 3, 1, 0, 0, 0, 0), (2035, .iconst 1, 1, 0, 0, 0, 0), (2036, .iadd, 1, 0, 0, 0, 0), (2037, .iaload, 1, 0, 0, 0, 0), (2038, .invokevirtual 296, 3, 192, 0, 1086, 0), (2041, .aload_n 2, 1, 0, 0, 0, 0), (2042, .aload_n 0, 1, 0, 0, 0, 0), (2043, .iload_n 3, 1, 0, 0, 0, 0), (2044, .iconst 1, 1, 0, 0, 0, 0), (2045, .iadd, 1, 0, 0, 0, 0), (2046, .iaload, 1, 0, 0, 0, 0), (2047, .invokevirtual 299, 3, 193, 0, 1826, 0)],
  [(2050, .if_icmp .eq 207, 3, 0, 0, 0, 0), (2055, .aload_n 1, 1, 0, 0, 0, 0), (2056, .aload_n 0, 1, 0, 0, 0, 0), (2057, .iload_n 3, 1, 0, 0, 0, 0), (2058, .iconst 1, 1, 0, 0, 0, 0), (2059, .iadd, 1, 0, 0, 0, 0), (2060, .iaload, 1, 0, 0, 0, 0), (2061, .invokevirtual 300, 3, 194, 0, 1090, 0), (2064, .aload_n 2, 1, 0, 0, 0, 0), (2065, .aload_n 0, 1, 0, 0, 0, 0), (2066, .iload_n 3, 1, 0, 0, 0, 0), (2067, .iconst 1, 1, 0, 0, 0, 0), (2068, .iadd, 1, 0, 0, 0, 0), (2069, .iaload, 1, 0, 0, 0, 0), (2070, .invokevirtual 303, 3, 195, 0, 1831, 0), (2073, .if_icmp .eq 184, 3, 0, 0, 0, 0), (2078, .aload_n 1, 1, 0, 0, 0, 0), (2079, .aload_n 0, 1, 0, 0, 0, 0)],
  [(2080, .iload_n 3, 1, 0, 0, 0, 0), (2081, .iconst 1, 1, 0, 0, 0, 0), (2082, .iadd, 1, 0, 0, 0, 0), (2083, .iaload, 1, 0, 0, 0, 0), (2084, .aload_n 0, 1, 0, 0, 0, 0), (2085, .iload_n 3, 1, 0, 0, 0, 0), (2086, .iconst 2, 1, 0, 0, 0, 0), (2087, .iadd, 1, 0, 0, 0, 0), (2088, .iaload, 1, 0, 0, 0, 0), (2089, .aload_n 0, 1, 0, 0, 0, 0), (2090, .iload_n 3, 1, 0, 0, 0, 0), (2091, .iconst 3, 1, 0, 0, 0, 0), (2092, .iadd, 1, 0, 0, 0, 0), (2093, .iaload, 1, 0, 0, 0, 0), (2094, .invokevirtual 304, 3, 196, 0, 1094, 0), (2097, .aload_n 2, 1, 0, 0, 0, 0), (2098, .aload_n 0, 1, 0, 0, 0, 0), (2099, .iload_n 3, 1, 0, 0, 0, 0), (2100, .iconst 1, 1, 0, 0, 0, 0), (2101, .iadd, 1, 0, 0, 0, 0), (2102, .iaload, 1, 0, 0, 0, 0), (2103, .aload_n 0, 1, 0, 0, 0, 0), (2104, .iload_n 3, 1, 0, 0, 0, 0), (2105, .iconst 2, 1, 0, 0, 0, 0), (2106, .iadd, 1, 0, 0, 0, 0), (2107, .iaload, 1, 0, 0, 0, 0), (2108, .aload_n 0, 1, 0, 0, 0, 0), (2109, .iload_n 3, 1, 0, 0, 0, 0), (2110, .iconst 3, 1, 0, 0, 0, 0), (2111, .iadd, 1, 0, 0, 0, 0)],
  [(2112, .iaload, 1, 0, 0, 0, 0), (2113, .invokevirtual 307, 3, 199, 0, 1267, 0), (2116, .if_icmp .eq 141, 3, 0, 0, 0, 0), (2121, .aload_n 1, 1, 0, 0, 0, 0), (2122, .aload_n 0, 1, 0, 0, 0, 0), (2123, .iload_n 3, 1, 0, 0, 0, 0), (2124, .iconst 1, 1, 0, 0, 0, 0), (2125, .iadd, 1, 0, 0, 0, 0), (2126, .iaload, 1, 0, 0, 0, 0), (2127, .aload_n 0, 1, 0, 0, 0, 0), (2128, .iload_n 3, 1, 0, 0, 0, 0), (2129, .iconst 2, 1, 0, 0, 0, 0), (2130, .iadd, 1, 0, 0, 0, 0), (2131, .iaload, 1, 0, 0, 0, 0), (2132, .aload_n 0, 1, 0, 0, 0, 0), (2133, .iload_n 3, 1, 0, 0, 0, 0), (2134, .iconst 3, 1, 0, 0, 0, 0), (2135, .iadd, 1, 0, 0, 0, 0), (2136, .iaload, 1, 0, 0, 0, 0), (2137, .i2l, 1, 0, 0, 0, 0), (2138, .bipush 32, 2, 0, 0, 0, 0), (2140, .lshl, 1, 0, 0, 0, 0), (2141, .aload_n 0, 1, 0, 0, 0, 0), (2142, .iload_n 3, 1, 0, 0, 0, 0), (2143, .iconst 4, 1, 0, 0, 0, 0)],
  [(2144, .iadd, 1, 0, 0, 0, 0), (2145, .iaload, 1, 0, 0, 0, 0), (2146, .i2l, 1, 0, 0, 0, 0), (2147, .ldc2_w 308, 3, 0, 0, 1835, 4294967295), (2150, .land, 1, 0, 0, 0, 0), (2151, .lor, 1, 0, 0, 0, 0), (2152, .invokevirtual 310, 3, 200, 0, 1102, 0), (2155, .aload_n 2, 1, 0, 0, 0, 0), (2156, .aload_n 0, 1, 0, 0, 0, 0), (2157, .iload_n 3, 1, 0, 0, 0, 0), (2158, .iconst 1, 1, 0, 0, 0, 0), (2159, .iadd, 1, 0, 0, 0, 0), (2160, .iaload, 1, 0, 0, 0, 0), (2161, .aload_n 0, 1, 0, 0, 0, 0), (2162, .iload_n 3, 1, 0, 0, 0, 0), (2163, .iconst 2, 1, 0, 0, 0, 0), (2164, .iadd, 1, 0, 0, 0, 0), (2165, .iaload, 1, 0, 0, 0, 0), (2166, .aload_n 0, 1, 0, 0, 0, 0), (2167, .iload_n 3, 1, 0, 0, 0, 0), (2168, .iconst 3, 1, 0, 0, 0, 0), (2169, .iadd, 1, 0, 0, 0, 0), (2170, .iaload, 1, 0, 0, 0, 0), (2171, .i2l, 1, 0, 0, 0, 0), (2172, .bipush 32, 2, 0, 0, 0, 0), (2174, .lshl, 1, 0, 0, 0, 0), (2175, .aload_n 0, 1, 0, 0, 0, 0)],
  [(2176, .iload_n 3, 1, 0, 0, 0, 0), (2177, .iconst 4, 1, 0, 0, 0, 0), (2178, .iadd, 1, 0, 0, 0, 0), (2179, .iaload, 1, 0, 0, 0, 0), (2180, .i2l, 1, 0, 0, 0, 0), (2181, .ldc2_w 308, 3, 0, 0, 1835, 4294967295), (2184, .land, 1, 0, 0, 0, 0), (2185, .lor, 1, 0, 0, 0, 0), (2186, .invokevirtual 314, 3, 201, 0, 1278, 0), (2189, .if_icmp .eq 68, 3, 0, 0, 0, 0), (2194, .aload_n 1, 1, 0, 0, 0, 0), (2195, .aload_n 0, 1, 0, 0, 0, 0), (2196, .iload_n 3, 1, 0, 0, 0, 0), (2197, .iconst 1, 1, 0, 0, 0, 0), (2198, .iadd, 1, 0, 0, 0, 0), (2199, .iaload, 1, 0, 0, 0, 0), (2200, .aload_n 0, 1, 0, 0, 0, 0), (2201, .iload_n 3, 1, 0, 0, 0, 0), (2202, .iconst 2, 1, 0, 0, 0, 0), (2203, .iadd, 1, 0, 0, 0, 0), (2204, .iaload, 1, 0, 0, 0, 0), (2205, .aload_n 0, 1, 0, 0, 0, 0), (2206, .iload_n 3, 1, 0, 0, 0, 0), (2207, .iconst 3, 1, 0, 0, 0, 0)],
  [(2208, .iadd, 1, 0, 0, 0, 0), (2209, .iaload, 1, 0, 0, 0, 0), (2210, .aload_n 0, 1, 0, 0, 0, 0), (2211, .iload_n 3, 1, 0, 0, 0, 0), (2212, .iconst 4, 1, 0, 0, 0, 0), (2213, .iadd, 1, 0, 0, 0, 0), (2214, .iaload, 1, 0, 0, 0, 0), (2215, .aload_n 0, 1, 0, 0, 0, 0), (2216, .iload_n 3, 1, 0, 0, 0, 0), (2217, .iconst 5, 1, 0, 0, 0, 0), (2218, .iadd, 1, 0, 0, 0, 0), (2219, .iaload, 1, 0, 0, 0, 0), (2220, .invokevirtual 315, 3, 202, 0, 1110, 0), (2223, .aload_n 2, 1, 0, 0, 0, 0), (2224, .aload_n 0, 1, 0, 0, 0, 0), (2225, .iload_n 3, 1, 0, 0, 0, 0), (2226, .iconst 1, 1, 0, 0, 0, 0), (2227, .iadd, 1, 0, 0, 0, 0), (2228, .iaload, 1, 0, 0, 0, 0), (2229, .aload_n 0, 1, 0, 0, 0, 0), (2230, .iload_n 3, 1, 0, 0, 0, 0), (2231, .iconst 2, 1, 0, 0, 0, 0), (2232, .iadd, 1, 0, 0, 0, 0), (2233, .iaload, 1, 0, 0, 0, 0), (2234, .aload_n 0, 1, 0, 0, 0, 0), (2235, .iload_n 3, 1, 0, 0, 0, 0), (2236, .iconst 3, 1, 0, 0, 0, 0), (2237, .iadd, 1, 0, 0, 0, 0), (2238, .iaload, 1, 0, 0, 0, 0), (2239, .aload_n 0, 1, 0, 0, 0, 0)],
  [(2240, .iload_n 3, 1, 0, 0, 0, 0), (2241, .iconst 4, 1, 0, 0, 0, 0), (2242, .iadd, 1, 0, 0, 0, 0), (2243, .iaload, 1, 0, 0, 0, 0), (2244, .aload_n 0, 1, 0, 0, 0, 0), (2245, .iload_n 3, 1, 0, 0, 0, 0), (2246, .iconst 5, 1, 0, 0, 0, 0), (2247, .iadd, 1, 0, 0, 0, 0), (2248, .iaload, 1, 0, 0, 0, 0), (2249, .invokevirtual 318, 3, 203, 0, 1285, 0), (2252, .if_icmp .eq 5, 3, 0, 0, 0, 0), (2257, .iinc 3 6, 3, 0, 0, 0, 0), (2260, .goto (-2242), 3, 0, 0, 0, 0), (2263, .iconst 1, 1, 0, 0, 0, 0), (2264, .ireturn, 1, 0, 0, 0, 0)]]
def zTb : List Cond := lw_tbl.filter z_wok
def zBB (mi : Nat) : Bool := z_B zTb vwCl zTY zTC zY zCC zRT zVK zINI zHN zD zWs mi
end
section
/-! ===== the law: two new objects, and the script read; by program ===== -/
def zS0 (L : Nat) : zS := ((0, 0) :: (List.replicate L (-2147483648, 2147483647) ++ (List.replicate (6 - L) (0, 0) ++ [(0, -1)])), [(0, (4, 7, 0))], [], [], 0, 0)
set_option maxRecDepth 100000 in
def zS1 : zS := ([(0, 0), ((-2147483648), 2147483647), ((-2147483648), 2147483647), ((-2147483648), 2147483647), ((-2147483648), 2147483647), ((-2147483648), 2147483647), ((-2147483648), 2147483647), (0, (-1)), ((-2147483648), 2147483647)], [(3, (0, 0, 0)), (2, (2, 77, 0)), (1, (2, 0, 0)), (0, (4, 7, 0))], [(0, 8, 0)], [.inl (6, [(2, 1, 0), (2, 3, 0), (2, 11, 0), (2, 19, 0), (2, 28, 0), (2, 37, 0), (2, 39, 0), (2, 41, 0), (2, 42, 0), (2, 43, 0), (2, 44, 0)]),
  .inl (3, [(2, 2, 0), (0, 0, 0), (0, 0, 0), (0, 0, (-1)), (0, 0, 0), (0, 0, 0), (0, 0, 0), (0, 0, 0)]),
  .inr (.inl (2, 700, 0, 0)),
  .inl (0, [(0, 0, 0), (0, 0, 0), (0, 0, 0), (0, 0, 0), (0, 0, 0), (0, 0, 0), (0, 0, 0), (0, 0, 0), (0, 0, 0), (0, 0, (-1)), (0, 0, 0), (2, 4, 0), (2, 5, 0), (2, 6, 0), (2, 7, 0), (2, 8, 0), (2, 9, 0), (2, 10, 0)]),
  .inr (.inl (0, 7, 0, 0)),
  .inr (.inl (0, 7, 0, 0)),
  .inr (.inl (0, 7, 0, 0)),
  .inr (.inl (0, 15, 0, 0)),
  .inr (.inl (0, 30, 0, 0)),
  .inr (.inl (0, 30, 0, 0)),
  .inr (.inl (0, 30, 0, 0)),
  .inl (0, [(0, 0, 0), (0, 0, 0), (0, 0, 0), (0, 0, 0), (0, 0, 0), (0, 0, 0), (0, 0, 0), (0, 0, 0), (0, 0, 0), (0, 0, (-1)), (0, 0, 0), (2, 12, 0), (2, 13, 0), (2, 14, 0), (2, 15, 0), (2, 16, 0), (2, 17, 0), (2, 18, 0)]),
  .inr (.inl (0, 7, 0, 0)),
  .inr (.inl (0, 7, 0, 0)),
  .inr (.inl (0, 7, 0, 0)),
  .inr (.inl (0, 15, 0, 0)),
  .inr (.inl (0, 30, 0, 0)),
  .inr (.inl (0, 30, 0, 0)),
  .inr (.inl (0, 30, 0, 0)),
  .inl (5, [(2, 3, 0), (0, 0, 0), (0, 0, 0), (0, 0, 0), (2, 20, 0), (2, 21, 0), (2, 22, 0), (2, 23, 0), (2, 24, 0), (2, 25, 0), (2, 26, 0), (2, 27, 0)]),
  .inr (.inl (0, 7, 0, 0)),
  .inr (.inl (0, 7, 0, 0)),
  .inr (.inl (0, 7, 0, 0)),
  .inr (.inl (0, 15, 0, 0)),
  .inr (.inl (0, 105, 0, 0)),
  .inr (.inl (0, 15, 0, 0)),
  .inr (.inl (0, 15, 0, 0)),
  .inr (.inl (0, 105, 0, 0)),
  .inl (5, [(2, 3, 0), (0, 0, 0), (0, 0, 0), (0, 0, 0), (2, 29, 0), (2, 30, 0), (2, 31, 0), (2, 32, 0), (2, 33, 0), (2, 34, 0), (2, 35, 0), (2, 36, 0)]),
  .inr (.inl (0, 7, 0, 0)),
  .inr (.inl (0, 7, 0, 0)),
  .inr (.inl (0, 7, 0, 0)),
  .inr (.inl (0, 15, 0, 0)),
  .inr (.inl (0, 105, 0, 0)),
  .inr (.inl (0, 15, 0, 0)),
  .inr (.inl (0, 15, 0, 0)),
  .inr (.inl (0, 105, 0, 0)),
  .inl (2, [(2, 28, 0), (2, 38, 0), (0, 0, 0), (0, 0, 0), (0, 0, 0)]),
  .inr (.inr (0, [(0, 0, 0), (0, 0, 0), (0, 0, 0), (0, 0, 0), (0, 0, 0)])),
  .inl (1, [(2, 40, 0), (0, 0, 0), (0, 0, 0), (0, 0, 0)]),
  .inr (.inl (0, 120, 0, 0)),
  .inr (.inr (4, [(2, 45, 0), (2, 47, 0), (2, 49, 0), (2, 51, 0)])),
  .inr (.inr (5, [(2, 53, 0), (2, 61, 0), (2, 69, 0)])),
  .inr (.inr (1, [(0, 0, 0), (0, 0, 0), (0, 0, 0)])),
  .inr (.inl (0, 128, 0, 0)),
  .inl (4, [(2, 46, 0), (0, 0, 0), (0, 0, 0), (0, 0, 0)]),
  .inr (.inl (3, 60, 0, 0)),
  .inl (4, [(2, 48, 0), (0, 0, 0), (0, 0, 0), (0, 0, 0)]),
  .inr (.inl (3, 60, 0, 0)),
  .inl (4, [(2, 50, 0), (0, 0, 0), (0, 0, 0), (0, 0, 0)]),
  .inr (.inl (3, 60, 0, 0)),
  .inl (4, [(2, 52, 0), (0, 0, 0), (0, 0, 0), (0, 0, 0)]),
  .inr (.inl (3, 60, 0, 0)),
  .inl (0, [(0, 0, 0), (0, 0, 0), (0, 0, 0), (0, 0, 0), (0, 0, 0), (0, 0, 0), (0, 0, 0), (0, 0, 0), (0, 0, 0), (0, 0, (-1)), (0, 0, 0), (2, 54, 0), (2, 55, 0), (2, 56, 0), (2, 57, 0), (2, 58, 0), (2, 59, 0), (2, 60, 0)]),
  .inr (.inl (0, 7, 0, 0)),
  .inr (.inl (0, 7, 0, 0)),
  .inr (.inl (0, 7, 0, 0)),
  .inr (.inl (0, 15, 0, 0)),
  .inr (.inl (0, 30, 0, 0)),
  .inr (.inl (0, 30, 0, 0)),
  .inr (.inl (0, 30, 0, 0)),
  .inl (0, [(0, 0, 0), (0, 0, 0), (0, 0, 0), (0, 0, 0), (0, 0, 0), (0, 0, 0), (0, 0, 0), (0, 0, 0), (0, 0, 0), (0, 0, (-1)), (0, 0, 0), (2, 62, 0), (2, 63, 0), (2, 64, 0), (2, 65, 0), (2, 66, 0), (2, 67, 0), (2, 68, 0)]),
  .inr (.inl (0, 7, 0, 0)),
  .inr (.inl (0, 7, 0, 0)),
  .inr (.inl (0, 7, 0, 0)),
  .inr (.inl (0, 15, 0, 0)),
  .inr (.inl (0, 30, 0, 0)),
  .inr (.inl (0, 30, 0, 0)),
  .inr (.inl (0, 30, 0, 0)),
  .inl (0, [(0, 0, 0), (0, 0, 0), (0, 0, 0), (0, 0, 0), (0, 0, 0), (0, 0, 0), (0, 0, 0), (0, 0, 0), (0, 0, 0), (0, 0, (-1)), (0, 0, 0), (2, 70, 0), (2, 71, 0), (2, 72, 0), (2, 73, 0), (2, 74, 0), (2, 75, 0), (2, 76, 0)]),
  .inr (.inl (0, 7, 0, 0)),
  .inr (.inl (0, 7, 0, 0)),
  .inr (.inl (0, 7, 0, 0)),
  .inr (.inl (0, 15, 0, 0)),
  .inr (.inl (0, 30, 0, 0)),
  .inr (.inl (0, 30, 0, 0)),
  .inr (.inl (0, 30, 0, 0)),
  .inl (7, [(0, 0, 0), (2, 78, 0), (2, 79, 0), (2, 80, 0), (2, 81, 0), (2, 82, 0), (0, 0, 0), (0, 0, 0), (0, 0, 0), (0, 0, 0), (0, 0, 0), (1, 0, 0), (0, 0, 0), (0, 0, 0), (0, 0, 0), (0, 0, (-1)), (2, 83, 0), (2, 84, 0), (2, 85, 0), (2, 86, 0), (2, 87, 0), (2, 88, 0), (2, 89, 0), (0, 0, 0), (0, 0, 0), (0, 0, 0), (0, 0, 0), (0, 0, 0), (2, 90, 0), (2, 91, 0), (2, 92, 0), (2, 93, 0), (2, 94, 0), (2, 95, 0), (0, 0, 0), (0, 0, 0), (0, 0, 0), (0, 0, 0), (2, 96, 0), (2, 97, 0), (2, 98, 0), (0, 0, 0), (0, 0, 0), (0, 0, 0), (0, 0, 0), (0, 0, 0), (2, 99, 0)]),
  .inr (.inr (0, [(0, 0, (-1)), (0, 0, (-1)), (0, 0, (-1)), (0, 0, (-1))])),
  .inr (.inr (0, [(0, 0, 0), (0, 0, 0), (0, 0, 0), (0, 0, 0)])),
  .inr (.inl (3, 240, 0, 0)),
  .inr (.inl (3, 60, 0, 0)),
  .inr (.inl (2, 700, 0, 0)),
  .inr (.inr (0, [(0, 0, 0), (0, 0, 0), (0, 0, 0), (0, 0, 0), (0, 0, 0)])),
  .inr (.inl (0, 50, 0, 0)),
  .inr (.inl (0, 70, 0, 0)),
  .inr (.inl (0, 120, 0, 0)),
  .inr (.inl (0, 80, 0, 0)),
  .inr (.inl (0, 450, 0, 0)),
  .inr (.inr (1, [(0, 0, 0), (0, 0, 0), (0, 0, 0)])),
  .inr (.inl (0, 7, 0, 0)),
  .inr (.inl (0, 7, 0, 0)),
  .inr (.inl (0, 7, 0, 0)),
  .inr (.inl (0, 15, 0, 0)),
  .inr (.inl (0, 15, 0, 0)),
  .inr (.inl (0, 105, 0, 0)),
  .inr (.inr (0, [(0, 0, 0), (0, 0, 0), (0, 0, 0), (0, 0, 0), (0, 0, 0)])),
  .inr (.inr (0, [(0, 0, 0), (0, 0, 0), (0, 0, 0), (0, 0, 0), (0, 0, 0)])),
  .inr (.inl (0, 35, 0, 0)),
  .inr (.inl (0, 120, 0, 0))], 100, 4697)
abbrev zCall : zL := z_runM zD zDF zTC 20000 6
abbrev zWl (L n : Nat) (w : List (Nat × zS)) : Option (List (Nat × zS)) := z_wl zD zCall 600000 7302250 4 (some L) zDF zTC zTL n w
abbrev zLw (L : Nat) (w : List (Nat × zS)) : Bool := z_lawB zD zDF zTC zTL 20000 6 4 L w
set_option maxRecDepth 100000 in
theorem zc1 : z_eqO (zWl 6 21 [(0, zS0 6)]) [(33, zS1)] = true := by decide +kernel
def zq : List (Nat × zS) := (zWl 6 1 [(33, zS1)]).getD []
def zqi (i : Nat) : Bool := match zq[i]? with
  | some z => zLw 6 [z]
  | none => true
end
section
/-! ===== the law's ways, one by one: every end answers 1 ===== -/
set_option maxRecDepth 100000 in
theorem zk_0 : (List.range' 0 2).all zqi = true := by decide +kernel
set_option maxRecDepth 100000 in
theorem zk_3 : (List.range' 3 44).all zqi = true := by decide +kernel
set_option maxRecDepth 100000 in
theorem zk_47 : (List.range' 47 22).all zqi = true := by decide +kernel
set_option maxRecDepth 100000 in
theorem zk_70 : zqi 70 = true := by decide +kernel
set_option maxRecDepth 100000 in
theorem zk_72 : (List.range' 72 5).all zqi = true := by decide +kernel
set_option maxRecDepth 100000 in
theorem zk_len : zq.length = 76 := by decide +kernel
end
section
set_option maxRecDepth 100000 in
theorem zk_2 : zqi 2 = true := by decide +kernel
end
section
/-- a way, cut by the script's first number behind the call's -/
def zqp (i : Nat) (cs : List Int) : List (Nat × zS) := match zq[i]? with
  | some z => z_pt 2 (-2147483648) 2147483647 cs z
  | none => []
def zqj (i : Nat) (cs : List Int) (j : Nat) : Bool := match (zqp i cs)[j]? with
  | some z => zLw 6 [z]
  | none => true
set_option maxRecDepth 100000 in
theorem zk_69_0 : (List.range' 0 2).all (zqj 69 [-1, 0, 1, 2]) = true := by decide +kernel
set_option maxRecDepth 100000 in
theorem zk_69_2 : (zqj 69 [-1, 0, 1, 2]) 2 = true := by decide +kernel
set_option maxRecDepth 100000 in
theorem zk_69_3 : (List.range' 3 2).all (zqj 69 [-1, 0, 1, 2]) = true := by decide +kernel
end
section
set_option maxRecDepth 100000 in
theorem zk_71_0 : (List.range' 0 2).all (zqj 71 [-1, 0, 1, 2, 3]) = true := by decide +kernel
set_option maxRecDepth 100000 in
theorem zk_71_2 : (zqj 71 [-1, 0, 1, 2, 3]) 2 = true := by decide +kernel
set_option maxRecDepth 100000 in
theorem zk_71_3 : (zqj 71 [-1, 0, 1, 2, 3]) 3 = true := by decide +kernel
set_option maxRecDepth 100000 in
theorem zk_71_4 : (List.range' 4 2).all (zqj 71 [-1, 0, 1, 2, 3]) = true := by decide +kernel
end
section
/-! ===== the methods: code, links and words; by program ===== -/
set_option maxRecDepth 100000 in
theorem zb_0 : (List.range' 0 12).all zBB = true := by decide +kernel
set_option maxRecDepth 100000 in
theorem zb_12 : (List.range' 12 12).all zBB = true := by decide +kernel
set_option maxRecDepth 100000 in
theorem zb_24 : (List.range' 24 12).all zBB = true := by decide +kernel
set_option maxRecDepth 100000 in
theorem zb_36 : (List.range' 36 12).all zBB = true := by decide +kernel
set_option maxRecDepth 100000 in
theorem zb_48 : (List.range' 48 12).all zBB = true := by decide +kernel
set_option maxRecDepth 100000 in
theorem zb_60 : (List.range' 60 12).all zBB = true := by decide +kernel
end
section
/-! ===== the methods: code, links and words; by program ===== -/
set_option maxRecDepth 100000 in
theorem zb_72 : (List.range' 72 12).all zBB = true := by decide +kernel
set_option maxRecDepth 100000 in
theorem zb_84 : (List.range' 84 12).all zBB = true := by decide +kernel
set_option maxRecDepth 100000 in
theorem zb_96 : (List.range' 96 12).all zBB = true := by decide +kernel
set_option maxRecDepth 100000 in
theorem zb_108 : (List.range' 108 12).all zBB = true := by decide +kernel
set_option maxRecDepth 100000 in
theorem zb_120 : (List.range' 120 12).all zBB = true := by decide +kernel
set_option maxRecDepth 100000 in
theorem zb_132 : (List.range' 132 12).all zBB = true := by decide +kernel
end
section
/-! ===== the methods: code, links and words; by program ===== -/
set_option maxRecDepth 100000 in
theorem zb_144 : (List.range' 144 12).all zBB = true := by decide +kernel
set_option maxRecDepth 100000 in
theorem zb_156 : (List.range' 156 12).all zBB = true := by decide +kernel
set_option maxRecDepth 100000 in
theorem zb_168 : (List.range' 168 12).all zBB = true := by decide +kernel
set_option maxRecDepth 100000 in
theorem zb_180 : (List.range' 180 12).all zBB = true := by decide +kernel
set_option maxRecDepth 100000 in
theorem zb_192 : (List.range' 192 12).all zBB = true := by decide +kernel
end
section
/-! ===== the law: code, links and words; by program ===== -/
def zLB (k : Nat) : Bool := match zTL[k]? with
  | some b => b.all (fun x => decide (decode code x.1 = .ok (x.2.1, x.2.2.1)) && z_lok zTb vwCl zTY zTC zY zVK zHN "WaistcoatGreenLaw" false x.2.1 x.2.2.1 x.2.2.2.1 x.2.2.2.2.1 x.2.2.2.2.2.1 x.2.2.2.2.2.2)
  | none => true
set_option maxRecDepth 100000 in
theorem zl_0 : (List.range' 0 2).all zLB = true := by decide +kernel
set_option maxRecDepth 100000 in
theorem zl_2 : (List.range' 2 2).all zLB = true := by decide +kernel
set_option maxRecDepth 100000 in
theorem zl_4 : (List.range' 4 2).all zLB = true := by decide +kernel
set_option maxRecDepth 100000 in
theorem zl_6 : (List.range' 6 2).all zLB = true := by decide +kernel
set_option maxRecDepth 100000 in
theorem zl_8 : (List.range' 8 2).all zLB = true := by decide +kernel
set_option maxRecDepth 100000 in
theorem zl_10 : (List.range' 10 2).all zLB = true := by decide +kernel
set_option maxRecDepth 100000 in
theorem zl_12 : (List.range' 12 2).all zLB = true := by decide +kernel
set_option maxRecDepth 100000 in
theorem zl_14 : (List.range' 14 2).all zLB = true := by decide +kernel
set_option maxRecDepth 100000 in
theorem zl_16 : (List.range' 16 2).all zLB = true := by decide +kernel
set_option maxRecDepth 100000 in
theorem zl_18 : (List.range' 18 2).all zLB = true := by decide +kernel
set_option maxRecDepth 100000 in
theorem zl_20 : (List.range' 20 2).all zLB = true := by decide +kernel
set_option maxRecDepth 100000 in
theorem zl_22 : (List.range' 22 2).all zLB = true := by decide +kernel
set_option maxRecDepth 100000 in
theorem zl_24 : (List.range' 24 2).all zLB = true := by decide +kernel
set_option maxRecDepth 100000 in
theorem zl_26 : (List.range' 26 2).all zLB = true := by decide +kernel
set_option maxRecDepth 100000 in
theorem zl_28 : (List.range' 28 2).all zLB = true := by decide +kernel
set_option maxRecDepth 100000 in
theorem zl_30 : (List.range' 30 2).all zLB = true := by decide +kernel
set_option maxRecDepth 100000 in
theorem zl_32 : (List.range' 32 2).all zLB = true := by decide +kernel
set_option maxRecDepth 100000 in
theorem zl_34 : (List.range' 34 2).all zLB = true := by decide +kernel
set_option maxRecDepth 100000 in
theorem zl_36 : (List.range' 36 2).all zLB = true := by decide +kernel
set_option maxRecDepth 100000 in
theorem zl_38 : (List.range' 38 2).all zLB = true := by decide +kernel
set_option maxRecDepth 100000 in
theorem zl_40 : (List.range' 40 2).all zLB = true := by decide +kernel
set_option maxRecDepth 100000 in
theorem zl_42 : (List.range' 42 2).all zLB = true := by decide +kernel
set_option maxRecDepth 100000 in
theorem zl_44 : (List.range' 44 2).all zLB = true := by decide +kernel
set_option maxRecDepth 100000 in
theorem zl_46 : (List.range' 46 2).all zLB = true := by decide +kernel
set_option maxRecDepth 100000 in
theorem zl_48 : (List.range' 48 2).all zLB = true := by decide +kernel
set_option maxRecDepth 100000 in
theorem zl_50 : (List.range' 50 2).all zLB = true := by decide +kernel
set_option maxRecDepth 100000 in
theorem zl_52 : (List.range' 52 2).all zLB = true := by decide +kernel
set_option maxRecDepth 100000 in
theorem zl_54 : (List.range' 54 2).all zLB = true := by decide +kernel
set_option maxRecDepth 100000 in
theorem zl_56 : (List.range' 56 2).all zLB = true := by decide +kernel
set_option maxRecDepth 100000 in
theorem zl_58 : (List.range' 58 2).all zLB = true := by decide +kernel
set_option maxRecDepth 100000 in
theorem zl_60 : (List.range' 60 2).all zLB = true := by decide +kernel
set_option maxRecDepth 100000 in
theorem zl_62 : (List.range' 62 2).all zLB = true := by decide +kernel
set_option maxRecDepth 100000 in
theorem zl_64 : (List.range' 64 2).all zLB = true := by decide +kernel
set_option maxRecDepth 100000 in
theorem zl_66 : (List.range' 66 2).all zLB = true := by decide +kernel
set_option maxRecDepth 100000 in
theorem zl_68 : (List.range' 68 2).all zLB = true := by decide +kernel
set_option maxRecDepth 100000 in
theorem zl_70 : (List.range' 70 1).all zLB = true := by decide +kernel
end
section
/-! ===== all of them ===== -/
theorem zb_all : ∀ mi, mi < zD.length → zBB mi = true := by
  intro mi hm
  have hl : zD.length = 204 := by decide +kernel
  rw [hl] at hm
  rcases Nat.lt_or_ge mi 12 with h | h
  · exact z_rng_all zb_0 (by omega) (by omega)
  rcases Nat.lt_or_ge mi 24 with h | h
  · exact z_rng_all zb_12 (by omega) (by omega)
  rcases Nat.lt_or_ge mi 36 with h | h
  · exact z_rng_all zb_24 (by omega) (by omega)
  rcases Nat.lt_or_ge mi 48 with h | h
  · exact z_rng_all zb_36 (by omega) (by omega)
  rcases Nat.lt_or_ge mi 60 with h | h
  · exact z_rng_all zb_48 (by omega) (by omega)
  rcases Nat.lt_or_ge mi 72 with h | h
  · exact z_rng_all zb_60 (by omega) (by omega)
  rcases Nat.lt_or_ge mi 84 with h | h
  · exact z_rng_all zb_72 (by omega) (by omega)
  rcases Nat.lt_or_ge mi 96 with h | h
  · exact z_rng_all zb_84 (by omega) (by omega)
  rcases Nat.lt_or_ge mi 108 with h | h
  · exact z_rng_all zb_96 (by omega) (by omega)
  rcases Nat.lt_or_ge mi 120 with h | h
  · exact z_rng_all zb_108 (by omega) (by omega)
  rcases Nat.lt_or_ge mi 132 with h | h
  · exact z_rng_all zb_120 (by omega) (by omega)
  rcases Nat.lt_or_ge mi 144 with h | h
  · exact z_rng_all zb_132 (by omega) (by omega)
  rcases Nat.lt_or_ge mi 156 with h | h
  · exact z_rng_all zb_144 (by omega) (by omega)
  rcases Nat.lt_or_ge mi 168 with h | h
  · exact z_rng_all zb_156 (by omega) (by omega)
  rcases Nat.lt_or_ge mi 180 with h | h
  · exact z_rng_all zb_168 (by omega) (by omega)
  rcases Nat.lt_or_ge mi 192 with h | h
  · exact z_rng_all zb_180 (by omega) (by omega)
  exact z_rng_all zb_192 (by omega) (by omega)
theorem zl_all : ∀ k, k < zTL.length → zLB k = true := by
  intro k hm
  have hl : zTL.length = 71 := by decide +kernel
  rw [hl] at hm
  rcases Nat.lt_or_ge k 2 with h | h
  · exact z_rng_all zl_0 (by omega) (by omega)
  rcases Nat.lt_or_ge k 4 with h | h
  · exact z_rng_all zl_2 (by omega) (by omega)
  rcases Nat.lt_or_ge k 6 with h | h
  · exact z_rng_all zl_4 (by omega) (by omega)
  rcases Nat.lt_or_ge k 8 with h | h
  · exact z_rng_all zl_6 (by omega) (by omega)
  rcases Nat.lt_or_ge k 10 with h | h
  · exact z_rng_all zl_8 (by omega) (by omega)
  rcases Nat.lt_or_ge k 12 with h | h
  · exact z_rng_all zl_10 (by omega) (by omega)
  rcases Nat.lt_or_ge k 14 with h | h
  · exact z_rng_all zl_12 (by omega) (by omega)
  rcases Nat.lt_or_ge k 16 with h | h
  · exact z_rng_all zl_14 (by omega) (by omega)
  rcases Nat.lt_or_ge k 18 with h | h
  · exact z_rng_all zl_16 (by omega) (by omega)
  rcases Nat.lt_or_ge k 20 with h | h
  · exact z_rng_all zl_18 (by omega) (by omega)
  rcases Nat.lt_or_ge k 22 with h | h
  · exact z_rng_all zl_20 (by omega) (by omega)
  rcases Nat.lt_or_ge k 24 with h | h
  · exact z_rng_all zl_22 (by omega) (by omega)
  rcases Nat.lt_or_ge k 26 with h | h
  · exact z_rng_all zl_24 (by omega) (by omega)
  rcases Nat.lt_or_ge k 28 with h | h
  · exact z_rng_all zl_26 (by omega) (by omega)
  rcases Nat.lt_or_ge k 30 with h | h
  · exact z_rng_all zl_28 (by omega) (by omega)
  rcases Nat.lt_or_ge k 32 with h | h
  · exact z_rng_all zl_30 (by omega) (by omega)
  rcases Nat.lt_or_ge k 34 with h | h
  · exact z_rng_all zl_32 (by omega) (by omega)
  rcases Nat.lt_or_ge k 36 with h | h
  · exact z_rng_all zl_34 (by omega) (by omega)
  rcases Nat.lt_or_ge k 38 with h | h
  · exact z_rng_all zl_36 (by omega) (by omega)
  rcases Nat.lt_or_ge k 40 with h | h
  · exact z_rng_all zl_38 (by omega) (by omega)
  rcases Nat.lt_or_ge k 42 with h | h
  · exact z_rng_all zl_40 (by omega) (by omega)
  rcases Nat.lt_or_ge k 44 with h | h
  · exact z_rng_all zl_42 (by omega) (by omega)
  rcases Nat.lt_or_ge k 46 with h | h
  · exact z_rng_all zl_44 (by omega) (by omega)
  rcases Nat.lt_or_ge k 48 with h | h
  · exact z_rng_all zl_46 (by omega) (by omega)
  rcases Nat.lt_or_ge k 50 with h | h
  · exact z_rng_all zl_48 (by omega) (by omega)
  rcases Nat.lt_or_ge k 52 with h | h
  · exact z_rng_all zl_50 (by omega) (by omega)
  rcases Nat.lt_or_ge k 54 with h | h
  · exact z_rng_all zl_52 (by omega) (by omega)
  rcases Nat.lt_or_ge k 56 with h | h
  · exact z_rng_all zl_54 (by omega) (by omega)
  rcases Nat.lt_or_ge k 58 with h | h
  · exact z_rng_all zl_56 (by omega) (by omega)
  rcases Nat.lt_or_ge k 60 with h | h
  · exact z_rng_all zl_58 (by omega) (by omega)
  rcases Nat.lt_or_ge k 62 with h | h
  · exact z_rng_all zl_60 (by omega) (by omega)
  rcases Nat.lt_or_ge k 64 with h | h
  · exact z_rng_all zl_62 (by omega) (by omega)
  rcases Nat.lt_or_ge k 66 with h | h
  · exact z_rng_all zl_64 (by omega) (by omega)
  rcases Nat.lt_or_ge k 68 with h | h
  · exact z_rng_all zl_66 (by omega) (by omega)
  rcases Nat.lt_or_ge k 70 with h | h
  · exact z_rng_all zl_68 (by omega) (by omega)
  exact z_rng_all zl_70 (by omega) (by omega)
end
section
/-! ===== the law's frame ===== -/
section ZZ
variable {p : Program} {l : Launch} {e : Env} {R : Room} {s : State} {m : MethodId} {args : Array Value} {below : List Frame} {meth : Method} {c : Code} {Q : State → Prop} {D : va_G} {cl : List vw_C} {tys : List (ClassId × FieldType)} {A : Nat → Prop} {H0 : Heap} {nL : Nat} {ρ0 : List Int} {ad0 : List Nat} {cc : ByteArray}
variable {tbl : List Cond} {TY : Nat → Nat → FieldType} {TC : List Nat} {DF : List (List Nat)} {Y : Nat → MethodName} {CC : Nat → ByteArray} {RT : Nat → Option FieldType} {VK : Nat → Nat} {INI : Nat → Bool} {HN own : String} {ini : Bool} {ZD : List zN} {RC RS d : Nat} {sc : Option Nat} {call : zL} {T : List (List zE)}
theorem z_hs (CX : z_CX p R s m args meth c cc nL own ini D cl tys TC tbl A H0 RC RS d sc ρ0) (AL : z_ALL tbl cl TY TC DF Y CC RT VK INI HN ZD)
    (hT : ∀ b ∈ T, ∀ x ∈ b, decode cc x.1 = .ok (x.2.1, x.2.2.1) ∧ z_lok tbl cl TY TC Y VK HN own ini x.2.1 x.2.2.1 x.2.2.2.1 x.2.2.2.2.1 x.2.2.2.2.2.1 x.2.2.2.2.2.2 = true)
    (hcall : ∀ mi nA rc rk mc ms nl T ivs as hp es, ZD[mi]? = some (nA, rc, rk, mc, ms, nl, T) → call mi ivs as hp = some es → z_MET l D cl tys tbl (Y mi) (CC mi) nl (RT mi) d rk mc ms ivs as hp es)
    (pc : Nat) (S : zS) (x : zE) (q : List (Nat × zS)) (hat : z_at T pc = some x) (hst : z_step ZD call RC RS nL sc DF TC (z_at T (pc + 1)) pc x.2.1 x.2.2.2.1 x.2.2.2.2.1 x.2.2.2.2.2.2 S.1 S.2.1 S.2.2.1 S.2.2.2.1 S.2.2.2.2.1 S.2.2.2.2.2 = some q) (hq : ∀ z ∈ q, z_K p l e R s m args below meth c Q D cl tys A H0 nL ρ0 ad0 z.1 z.2) : z_K p l e R s m args below meth c Q D cl tys A H0 nL ρ0 ad0 pc S := by
  obtain ⟨al1, al2, al3⟩ := AL
  obtain ⟨ivs, lo, sk, hp, nc, ns⟩ := S
  obtain ⟨⟨b, hb, hxb⟩, he⟩ := z_at_ok hat
  obtain ⟨hd, hlk⟩ := hT b hb x hxb
  rw [he] at hd
  have hok := fun mi nA rc rk mc ms nl T hz => (al3 mi nA rc rk mc ms nl T hz).1
  refine z_step_ok CX al2 hd hlk (fun y hy => ?_) (fun i g1 g2 g3 g4 => ?_) (fun i g1 g2 g3 g4 => ?_) (fun i g1 g2 g3 g4 => ?_) (fun i g1 g2 g3 g4 => ?_) hst hq
  · obtain ⟨⟨b2, hb2, hxb2⟩, he2⟩ := z_at_ok hy
    obtain ⟨hd2, hlk2⟩ := hT b2 hb2 y hxb2
    rw [he2] at hd2
    refine ⟨hd2, fun cd off ey => ?_⟩
    rw [ey] at hlk2
    exact z_beq hlk2
  · exact z_inv_ok (HN := HN) CX al1 hok hcall (Or.inl ⟨i, g1, g2, g3⟩) g4 hq
  · exact z_inv_ok (HN := HN) CX al1 hok hcall (Or.inr (Or.inl ⟨i, g1, g2, g3⟩)) g4 hq
  · exact z_inv_ok (HN := HN) CX al1 hok hcall (Or.inr (Or.inr (Or.inl ⟨i, g1, g2, g3⟩))) g4 hq
  · exact z_inv_ok (HN := HN) CX al1 hok hcall (Or.inr (Or.inr (Or.inr ⟨i, g1, g2, g3⟩))) g4 hq
end ZZ
theorem z_arrP {s : State} {args : Array Value} {ty : FieldType} (h : (Cond.arrayClass ty).before args s = true) : ∃ cA, ArrOfT s cA ty ∧ s.vm.findClass ("[" ++ ty.toString) = some cA := by
  obtain ⟨cA, kA, comp, h1, h2, h3⟩ := Cond.arrayClass_spec h
  exact ⟨cA, fun n z => ⟨fun k h => (by cases h), kA, h2, comp, h3⟩, h1⟩
theorem z_arrO {s : State} {args : Array Value} {C : String} (h : (Cond.arrayOver (.object C)).before args s = true) : ∃ cA, ArrOfT s cA (.object C) ∧ va_RA s cA (.object C) := by
  obtain ⟨comp, cA, kA, h1, h2, h3, h4, h5⟩ := Cond.arrayOver_spec h
  exact ⟨cA, fun n z => ⟨fun k h => (by cases h), kA, h3, comp, h4⟩, kA, comp, h3, h4, h1, h5⟩

set_option maxRecDepth 100000 in
theorem iX0 : ∀ w ∈ u_ws RX0 TX0 18, w ∈ zTb := by decide +kernel
set_option maxRecDepth 100000 in
theorem dfX0 : ∀ j, j < 18 → defaultValue (tyX0 j) = vp_V (([0, 0, 0, 0, 0, 0, 0, 0, 0, 0, 0, 3, 3, 3, 3, 3, 3, 3] : List Nat).map z_dv) j := by decide +kernel
set_option maxRecDepth 100000 in
theorem inX0 : Cond.instantiable RX0 18 ∈ zTb := by decide +kernel
set_option maxRecDepth 100000 in
theorem iX1 : ∀ w ∈ u_ws RX1 TX1 4, w ∈ zTb := by decide +kernel
set_option maxRecDepth 100000 in
theorem dfX1 : ∀ j, j < 4 → defaultValue (tyX1 j) = vp_V (([3, 0, 0, 0] : List Nat).map z_dv) j := by decide +kernel
set_option maxRecDepth 100000 in
theorem inX1 : Cond.instantiable RX1 4 ∈ zTb := by decide +kernel
set_option maxRecDepth 100000 in
theorem iX2 : ∀ w ∈ u_ws RX2 TX2 5, w ∈ zTb := by decide +kernel
set_option maxRecDepth 100000 in
theorem dfX2 : ∀ j, j < 5 → defaultValue (tyX2 j) = vp_V (([3, 3, 0, 0, 0] : List Nat).map z_dv) j := by decide +kernel
set_option maxRecDepth 100000 in
theorem inX2 : Cond.instantiable RX2 5 ∈ zTb := by decide +kernel
set_option maxRecDepth 100000 in
theorem iX3 : ∀ w ∈ u_ws RX3 TX3 8, w ∈ zTb := by decide +kernel
set_option maxRecDepth 100000 in
theorem dfX3 : ∀ j, j < 8 → defaultValue (tyX3 j) = vp_V (([3, 0, 0, 0, 0, 0, 0, 0] : List Nat).map z_dv) j := by decide +kernel
set_option maxRecDepth 100000 in
theorem inX3 : Cond.instantiable RX3 8 ∈ zTb := by decide +kernel
set_option maxRecDepth 100000 in
theorem iX4 : ∀ w ∈ u_ws RX4 TX4 4, w ∈ zTb := by decide +kernel
set_option maxRecDepth 100000 in
theorem dfX4 : ∀ j, j < 4 → defaultValue (tyX4 j) = vp_V (([3, 0, 0, 0] : List Nat).map z_dv) j := by decide +kernel
set_option maxRecDepth 100000 in
theorem inX4 : Cond.instantiable RX4 4 ∈ zTb := by decide +kernel
set_option maxRecDepth 100000 in
theorem iX5 : ∀ w ∈ u_ws RX5 TX5 12, w ∈ zTb := by decide +kernel
set_option maxRecDepth 100000 in
theorem dfX5 : ∀ j, j < 12 → defaultValue (tyX5 j) = vp_V (([3, 0, 0, 0, 3, 3, 3, 3, 3, 3, 3, 3] : List Nat).map z_dv) j := by decide +kernel
set_option maxRecDepth 100000 in
theorem inX5 : Cond.instantiable RX5 12 ∈ zTb := by decide +kernel
set_option maxRecDepth 100000 in
theorem iX6 : ∀ w ∈ u_ws RX6 TX6 11, w ∈ zTb := by decide +kernel
set_option maxRecDepth 100000 in
theorem dfX6 : ∀ j, j < 11 → defaultValue (tyX6 j) = vp_V (([3, 3, 3, 3, 3, 3, 3, 3, 3, 3, 3] : List Nat).map z_dv) j := by decide +kernel
set_option maxRecDepth 100000 in
theorem inX6 : Cond.instantiable RX6 11 ∈ zTb := by decide +kernel
set_option maxRecDepth 100000 in
theorem iX7 : ∀ w ∈ u_ws RX7 TX7 47, w ∈ zTb := by decide +kernel
set_option maxRecDepth 100000 in
theorem dfX7 : ∀ j, j < 47 → defaultValue (tyX7 j) = vp_V (([0, 3, 3, 3, 3, 3, 0, 0, 0, 0, 0, 1, 0, 0, 0, 0, 3, 3, 3, 3, 3, 3, 3, 0, 0, 0, 0, 0, 3, 3, 3, 3, 3, 3, 0, 0, 0, 0, 3, 3, 3, 0, 0, 0, 0, 0, 3] : List Nat).map z_dv) j := by decide +kernel
set_option maxRecDepth 100000 in
theorem inX7 : Cond.instantiable RX7 47 ∈ zTb := by decide +kernel
set_option maxRecDepth 100000 in
theorem zmw_0 : Cond.native arraycopyName ∈ zTb := by decide +kernel
set_option maxRecDepth 100000 in
theorem zmw_1 : Cond.static arraycopyName ∈ zTb := by decide +kernel
set_option maxRecDepth 100000 in
theorem zmw_2 : Cond.initialized "java/lang/System" ∈ zTb := by decide +kernel
set_option maxRecDepth 100000 in
theorem zmw_3 : Cond.instanceMethod Lib.objectInit ∈ zTb := by decide +kernel
set_option maxRecDepth 100000 in
theorem zmw_4 : Cond.code Lib.objectInit ⟨#[0xb1]⟩ 1 none ∈ zTb := by decide +kernel
set_option maxRecDepth 100000 in
theorem zmw_5 : Cond.arrayClass .int ∈ zTb := by decide +kernel
set_option maxRecDepth 100000 in
theorem zmw_6 : Cond.arrayClass .boolean ∈ zTb := by decide +kernel
set_option maxRecDepth 100000 in
theorem zmw_7 : Cond.arrayClass .byte ∈ zTb := by decide +kernel
set_option maxRecDepth 100000 in
theorem zmw_8 : Cond.arrayClass .long ∈ zTb := by decide +kernel
set_option maxRecDepth 100000 in
theorem zmw_9 : Cond.arrayOver (.object RX4) ∈ zTb := by decide +kernel
set_option maxRecDepth 100000 in
theorem zmw_10 : Cond.arrayOver (.object RX0) ∈ zTb := by decide +kernel
theorem zST : z_ST zTb vwCl zTY zDF := by
  refine ⟨fun ci q h => ?_, fun ci dc h => ?_, ⟨zmw_0, zmw_1, zmw_2⟩, zmw_3, zmw_4⟩
  · match ci, h with
    | 0, h =>
      cases h
      exact ⟨iX0, tyX0_ok, nmX0⟩
    | 1, h =>
      cases h
      exact ⟨iX1, tyX1_ok, nmX1⟩
    | 2, h =>
      cases h
      exact ⟨iX2, tyX2_ok, nmX2⟩
    | 3, h =>
      cases h
      exact ⟨iX3, tyX3_ok, nmX3⟩
    | 4, h =>
      cases h
      exact ⟨iX4, tyX4_ok, nmX4⟩
    | 5, h =>
      cases h
      exact ⟨iX5, tyX5_ok, nmX5⟩
    | 6, h =>
      cases h
      exact ⟨iX6, tyX6_ok, nmX6⟩
    | 7, h =>
      cases h
      exact ⟨iX7, tyX7_ok, nmX7⟩
    | n + 8, h => cases (show (none : Option vw_C) = some q from h)
  · match ci, h with
    | 0, h =>
      cases h
      exact ⟨_, rfl, rfl, dfX0⟩
    | 1, h =>
      cases h
      exact ⟨_, rfl, rfl, dfX1⟩
    | 2, h =>
      cases h
      exact ⟨_, rfl, rfl, dfX2⟩
    | 3, h =>
      cases h
      exact ⟨_, rfl, rfl, dfX3⟩
    | 4, h =>
      cases h
      exact ⟨_, rfl, rfl, dfX4⟩
    | 5, h =>
      cases h
      exact ⟨_, rfl, rfl, dfX5⟩
    | 6, h =>
      cases h
      exact ⟨_, rfl, rfl, dfX6⟩
    | 7, h =>
      cases h
      exact ⟨_, rfl, rfl, dfX7⟩
    | n + 8, h => cases (show (none : Option (List Nat)) = some dc from h)
theorem zAL : z_ALL zTb vwCl zTY zTC zDF zY zCC zRT zVK zINI zHN zD := ⟨fun w hw => (List.mem_filter.mp hw).2, zST, z_B_ok (WS := zWs) (fun mi h => zb_all mi h)⟩
theorem zTLok : ∀ b ∈ zTL, ∀ x ∈ b, decode code x.1 = .ok (x.2.1, x.2.2.1) ∧ z_lok zTb vwCl zTY zTC zY zVK zHN "WaistcoatGreenLaw" false x.2.1 x.2.2.1 x.2.2.2.1 x.2.2.2.2.1 x.2.2.2.2.2.1 x.2.2.2.2.2.2 = true := fun b hb x hx => by
  obtain ⟨k, hk⟩ := List.getElem?_of_mem hb
  have h := zl_all k (List.getElem?_eq_some_iff.mp hk).1
  unfold zLB at h
  rw [hk] at h
  have h2 := z_and (List.all_eq_true.mp h x hx)
  exact ⟨of_decide_eq_true h2.1, h2.2⟩
theorem z_world {s : State} {args : Array Value} (hts : ∀ w ∈ zTb, w.before args s = true) : ∃ (D : va_G) (tys : List (ClassId × FieldType)), va_K D vwCl tys s ∧ z_TYs vwCl zTC tys := by
  obtain ⟨c0, i0, k0⟩ := u_known hts iX0 (hts _ inX0)
  obtain ⟨c1, i1, k1⟩ := u_known hts iX1 (hts _ inX1)
  obtain ⟨c2, i2, k2⟩ := u_known hts iX2 (hts _ inX2)
  obtain ⟨c3, i3, k3⟩ := u_known hts iX3 (hts _ inX3)
  obtain ⟨c4, i4, k4⟩ := u_known hts iX4 (hts _ inX4)
  obtain ⟨c5, i5, k5⟩ := u_known hts iX5 (hts _ inX5)
  obtain ⟨c6, i6, k6⟩ := u_known hts iX6 (hts _ inX6)
  obtain ⟨c7, i7, k7⟩ := u_known hts iX7 (hts _ inX7)
  obtain ⟨a0, p0, n0⟩ := z_arrP (hts _ zmw_5)
  obtain ⟨a1, p1, n1⟩ := z_arrP (hts _ zmw_6)
  obtain ⟨a2, p2, n2⟩ := z_arrP (hts _ zmw_7)
  obtain ⟨a3, p3, n3⟩ := z_arrP (hts _ zmw_8)
  obtain ⟨a4, p4, n4⟩ := z_arrO (hts _ zmw_9)
  obtain ⟨a5, p5, n5⟩ := z_arrO (hts _ zmw_10)
  refine ⟨(fun k => match k with
    | 0 => c0
    | 1 => c1
    | 2 => c2
    | 3 => c3
    | 4 => c4
    | 5 => c5
    | 6 => c6
    | _ => c7, fun k => match k with
    | 0 => i0
    | 1 => i1
    | 2 => i2
    | 3 => i3
    | 4 => i4
    | 5 => i5
    | 6 => i6
    | _ => i7), [(a0, .int), (a1, .boolean), (a2, .byte), (a3, .long), (a4, .object RX4), (a5, .object RX0)], ⟨fun c q h => ?_, fun k q h => ?_⟩, fun t ht => ?_, fun i ci h => ?_, rfl⟩
  · match c, h with
    | 0, h =>
      cases h
      exact k0
    | 1, h =>
      cases h
      exact k1
    | 2, h =>
      cases h
      exact k2
    | 3, h =>
      cases h
      exact k3
    | 4, h =>
      cases h
      exact k4
    | 5, h =>
      cases h
      exact k5
    | 6, h =>
      cases h
      exact k6
    | 7, h =>
      cases h
      exact k7
    | n + 8, h => cases (show (none : Option vw_C) = some q from h)
  · match k, h with
    | 0, h =>
      cases h
      exact ⟨p0, n0⟩
    | 1, h =>
      cases h
      exact ⟨p1, n1⟩
    | 2, h =>
      cases h
      exact ⟨p2, n2⟩
    | 3, h =>
      cases h
      exact ⟨p3, n3⟩
    | 4, h =>
      cases h
      exact ⟨p4, n4⟩
    | 5, h =>
      cases h
      exact ⟨p5, n5⟩
    | n + 6, h => cases (show (none : Option (ClassId × FieldType)) = some q from h)
  · match t, ht with
    | 0, _ => exact ⟨a0, rfl⟩
    | 1, _ => exact ⟨a1, rfl⟩
    | 2, _ => exact ⟨a2, rfl⟩
    | 3, _ => exact ⟨a3, rfl⟩
  · match i, h with
    | 0, h =>
      cases h
      exact ⟨a4, (RX4, TX4, 4), rfl, rfl⟩
    | 1, h =>
      cases h
      exact ⟨a5, (RX0, TX0, 18), rfl, rfl⟩
    | n + 2, h => cases (show (none : Option Nat) = some ci from h)
end
section
/-! ===== scripts too short for a call ===== -/
set_option maxRecDepth 100000 in
theorem zs_0 : zLw 0 [(0, zS0 0)] = true := by decide +kernel
set_option maxRecDepth 100000 in
theorem zs_1 : zLw 1 [(0, zS0 1)] = true := by decide +kernel
set_option maxRecDepth 100000 in
theorem zs_2 : zLw 2 [(0, zS0 2)] = true := by decide +kernel
set_option maxRecDepth 100000 in
theorem zs_3 : zLw 3 [(0, zS0 3)] = true := by decide +kernel
set_option maxRecDepth 100000 in
theorem zs_4 : zLw 4 [(0, zS0 4)] = true := by decide +kernel
set_option maxRecDepth 100000 in
theorem zs_5 : zLw 5 [(0, zS0 5)] = true := by decide +kernel
end
section
/-! THE CLAIM OUT OF ONE WALK OF THE LAW'S BODY. Your part is whole_start (and what it stands on); all else here is the same for every law, but numbers. -/
def R_law : String := "WaistcoatGreenLaw"
def lw_P (b : Addr) (xs : List Int32) (args : Array Value) (s : State) : Prop := args = #[.ref b] ∧ s.IntsAt b xs ∧ xs.length ≤ 6 ∧ (Jvm.Cond.and given_1 narrow_1).before args s = true
def lw_Q (_ : Array Value) (s : State) (o : Outcome) (t : State) : Prop := o = .returned (some (.int 1)) ∧ Framed s o t [] 600000 7302250
def lw_Z (below : List Frame) (a : Array Value) (s : State) : State → Prop := fun t => ∃ o, t.status = .running ∧ Ended t below o ∧ lw_Q a s o t
/-- the law's own end, with 1 on the stack, nothing written that was there before, its room as the claim has it -/
theorem lw_ret {p : Program} {l : Launch} {e : Env} {s : State} {m : MethodId} {below : List Frame} {meth : Method} {c : Code} {b : Nat} (hx : p.tables.exec = Jvm.exec) (hb : c.code = code) (hr : meth.sig.returnType = ret) (hlocks : meth.locks = false) {pc : Nat} {H : Heap} {ls : Array Slot} (hdg : decode code pc = .ok (.ireturn, 1)) : W p l e room_1 s m #[Value.ref b] below meth c H [] 600000 7302250 (lw_Z below #[Value.ref b] s) (F0 m pc ls [.int 1]) := by
  intro T hT X
  obtain ⟨fs, hret, hrun, hended, hW, hframe⟩ := X.leave (v := some (.int 1)) (hlocks := hlocks) (fun h => by rw [hr] at h; cases h)
  have hmeth' : T.vm.method? m = some meth := X.method'
  refine ⟨T.setFrames fs, ?_, .returned (some (.int 1)), hrun, hended, rfl, ⟨_, rfl⟩, hW, hframe⟩
  jvm_step X.here [X.here.top, hx, hb, hdg, hmeth', hr, ret, narrow_b1]
  (try refine ⟨rfl, ?_⟩); (try refine ⟨rfl, ?_⟩)
  first | (intro acts; rw [hret _ acts rfl rfl rfl]) | rw [hret _ _ rfl rfl rfl]
  exact Steps.refl _
/-- what holds at the law's entry: the machine, the code, the tables' words (any of lw_tbl by 'hts w (by decide +kernel)'), the script of L ints xs at the cell b, what the Statement gives of the start (any of its parts by flat_of_before) -/
def lw_At (p : Program) (s : State) (m : MethodId) (meth : Method) (c : Code) (b L : Nat) (xs : Nat → Int32) : Prop :=
  p.tables.exec = Jvm.exec ∧ c.code = code ∧ meth.sig.returnType = ret ∧ c.maxLocals = 4 ∧ s.vm.findClass R_law = some m.cls ∧ (∀ w ∈ lw_tbl, w.before #[Value.ref b] s = true) ∧ va_X b L xs s s.heap ∧ b < s.heap.size ∧ meth.locks = false ∧ (Jvm.Cond.and given_1 narrow_1).before #[Value.ref b] s = true
/-! ===== the law's run gives its end ===== -/
theorem z_F.rep {α β : Type} {R : α → β → Prop} {a : α} : ∀ (l : List β), (∀ z ∈ l, R a z) → z_F R (List.replicate l.length a) l
  | [], _ => trivial
  | x :: l, h => ⟨h x List.mem_cons_self, z_F.rep l (fun z hz => h z (List.mem_cons_of_mem _ hz))⟩
def z_r0 (L b : Nat) (xs : Nat → Int32) : List Int := 0 :: ((List.range L).map (fun j => (xs j).toInt) ++ (List.replicate (6 - L) 0 ++ [(b : Int)]))
theorem z_r0_iv (L b : Nat) (xs : Nat → Int32) : z_iv (zS0 L).1 (z_r0 L b xs) := by
  refine ⟨Or.inr ⟨Int.le_refl _, Int.le_refl _⟩, z_F.app (z_F.app (l2 := [(0, -1)]) (k2 := [(b : Int)]) ⟨Or.inl (show (-1 : Int) < 0 by omega), trivial⟩ ?_) ?_⟩
  · have h := z_F.rep (R := fun (b : zI) (z : Int) => b.2 < b.1 ∨ (b.1 ≤ z ∧ z ≤ b.2)) (a := (0, 0)) (List.replicate (6 - L) (0 : Int)) (fun z hz => by
      have e := List.eq_of_mem_replicate hz
      subst e
      exact Or.inr ⟨Int.le_refl _, Int.le_refl _⟩)
    rw [List.length_replicate] at h
    exact h
  · have h := z_F.rep (R := fun (b : zI) (z : Int) => b.2 < b.1 ∨ (b.1 ≤ z ∧ z ≤ b.2)) (a := (-2147483648, 2147483647)) ((List.range L).map (fun j => (xs j).toInt)) (fun z hz => by
      obtain ⟨j, -, rfl⟩ := List.mem_map.mp hz
      exact Or.inr (z_rng (xs j)))
    rw [List.length_map, List.length_range] at h
    exact h
theorem z_r0_7 {L b : Nat} {xs : Nat → Int32} (hL : L ≤ 6) : (z_r0 L b xs)[7]? = some (b : Int) := by
  rcases (show L = 0 ∨ L = 1 ∨ L = 2 ∨ L = 3 ∨ L = 4 ∨ L = 5 ∨ L = 6 by omega) with rfl | rfl | rfl | rfl | rfl | rfl | rfl <;> rfl
theorem z_r0_j {L b : Nat} {xs : Nat → Int32} {j : Nat} (hj : j < L) : (z_r0 L b xs)[j + 1]? = some (xs j).toInt := by
  show ((List.range L).map (fun j => (xs j).toInt) ++ _)[j]? = _
  rw [List.getElem?_append_left (by rw [List.length_map, List.length_range]; exact hj), List.getElem?_map, List.getElem?_range hj]
  rfl
section ZL
variable {p : Program} {e : Env} {s : State} {m : MethodId} {below : List Frame} {meth : Method} {c : Code} {l : Launch} {b L : Nat} {xs : Nat → Int32} {D : va_G} {tys : List (ClassId × FieldType)}
abbrev z_KL (p : Program) (l : Launch) (e : Env) (s : State) (m : MethodId) (below : List Frame) (meth : Method) (c : Code) (b L : Nat) (xs : Nat → Int32) (D : va_G) (tys : List (ClassId × FieldType)) (pc : Nat) (S : zS) : Prop := z_K p l e room_1 s m #[Value.ref b] below meth c (lw_Z below #[Value.ref b] s) D vwCl tys (fun q => s.heap.size ≤ q) s.heap 4 (z_r0 L b xs) [] pc S
abbrev z_CL (p : Program) (s : State) (m : MethodId) (meth : Method) (c : Code) (b L : Nat) (xs : Nat → Int32) (D : va_G) (tys : List (ClassId × FieldType)) : Prop := z_CX p room_1 s m #[Value.ref b] meth c code 4 "WaistcoatGreenLaw" false D vwCl tys zTC zTb (fun q => s.heap.size ≤ q) s.heap 600000 7302250 6 (some L) (z_r0 L b xs)
theorem z_law_ok (CX : z_CL p s m meth c b L xs D tys) (hr : meth.sig.returnType = ret) (hlocks : meth.locks = false) {w : List (Nat × zS)} (h : zLw L w = true) : ∀ z ∈ w, z_KL p l e s m below meth c b L xs D tys z.1 z.2 := by
  have h : (match z_run zD (z_runM zD zDF zTC 20000 6) 600000 7302250 4 (some L) zDF zTC zTL 20000 w [] with
    | some ex => ex.all (z_ok1 zTL)
    | none => false) = true := h
  split at h
  · rename_i ex er
    refine z_frame (p := p) (l := l) (e := e) (below := below) CX zAL zTLok (z_runM_ok zAL CX.2.2.2.2.1 6) 20000 w [] ex er (fun z hz => ?_)
    have h1 := List.all_eq_true.mp h z hz
    obtain ⟨pc, ivs, lo, sk, hp, nc, ns⟩ := z
    unfold z_ok1 at h1
    split at h1
    · rename_i x hat
      obtain ⟨⟨b2, hb2, hxb2⟩, he2⟩ := z_at_ok hat
      obtain ⟨hd, hlk⟩ := zTLok b2 hb2 x hxb2
      rw [he2] at hd
      split at h1
      · rename_i ei es0
        have es0 : sk = [(0, 0, Int.ofNat 1)] := es0
        subst es0
        rw [ei] at hlk hd
        have hln : x.2.2.1 = 1 := z_beq hlk
        rw [hln] at hd
        have g1 := Nat.le_of_ble_eq_true (z_and h1).1
        have g2 := Nat.le_of_ble_eq_true (z_and h1).2
        intro ρ ws lv st H locs ls hg
        obtain ⟨v1, st1, rfl, hv1, hs1⟩ := hg.xsk.c1
        have hs1 : st1 = [] := by
          cases st1 with
          | nil => rfl
          | cons _ _ => exact hs1.elim
        subst hs1
        obtain ⟨i, rfl, hi⟩ := hv1
        have ei1 : i.toInt = 1 := z_v.const hg.zero hi
        have ei2 : i = 1 := Int32.toInt_inj.mp (by rw [ei1]; rfl)
        subst ei2
        refine va_forget (fun q hq => hg.xS.2.2 q hq) ?_
        refine W.widen g1 g2 ?_
        exact lw_ret CX.1.1 CX.1.2.1 hr hlocks hd
      · cases h1
    · cases h1
  · cases h
theorem z_six (CX : z_CL p s m meth c b 6 xs D tys) (hr : meth.sig.returnType = ret) (hlocks : meth.locks = false) : z_KL p l e s m below meth c b 6 xs D tys 0 (zS0 6) := by
  have hs := z_hs (p := p) (l := l) (e := e) (below := below) (Q := lw_Z below #[Value.ref b] s) (ad0 := []) CX zAL zTLok (z_runM_ok (FU := 20000) zAL CX.2.2.2.2.1 6)
  have hx2 : ∃ w, (z_r0 6 b xs)[2]? = some w ∧ (-2147483648 : Int) ≤ w ∧ w ≤ 2147483647 := ⟨_, z_r0_j (j := 1) (by omega), (z_rng (xs 1)).1, (z_rng (xs 1)).2⟩
  refine z_wl_ok hs 21 [(0, zS0 6)] [(33, zS1)] (z_eqO_ok zc1) (fun z hz => ?_) (0, zS0 6) List.mem_cons_self
  have ez := List.mem_singleton.mp hz
  subst ez
  have hq : zWl 6 1 [(33, zS1)] = some zq := by
    have hl := zk_len
    unfold zq at hl ⊢
    cases hw : zWl 6 1 [(33, zS1)] with
    | none =>
      rw [hw] at hl
      cases hl
    | some q => rfl
  refine z_wl_ok hs 1 [(33, zS1)] zq hq (fun z hz => ?_) (33, zS1) List.mem_cons_self
  obtain ⟨i, hi⟩ := List.getElem?_of_mem hz
  have hlt := (List.getElem?_eq_some_iff.mp hi).1
  rw [zk_len] at hlt
  have one : zqi i = true → z_KL p l e s m below meth c b 6 xs D tys z.1 z.2 := fun h => by
    unfold zqi at h
    rw [hi] at h
    exact z_law_ok CX hr hlocks h z List.mem_cons_self
  have cut : ∀ cs : List Int, (∀ j, j < cs.length + 1 → zqj i cs j = true) → z_KL p l e s m below meth c b 6 xs D tys z.1 z.2 := fun cs h => by
    refine z_pt_ok (cs := cs) hx2 (fun y hy => ?_)
    obtain ⟨j, hj⟩ := List.getElem?_of_mem hy
    have hjl := (List.getElem?_eq_some_iff.mp hj).1
    have hlen : ∀ (cs : List Int) (l0 : Int), (z_parts z.2.1 2 2147483647 l0 cs).length = cs.length + 1 := by
      intro cs
      induction cs with
      | nil => intro l0; rfl
      | cons c cs ih => intro l0; show (z_parts z.2.1 2 2147483647 (c + 1) cs).length + 1 = _; rw [ih]; rfl
    have h1 := h j (by
      have : (z_pt 2 (-2147483648) 2147483647 cs z).length = cs.length + 1 := by
        unfold z_pt
        rw [List.length_map]
        exact hlen cs _
      omega)
    unfold zqj zqp at h1
    rw [hi] at h1
    dsimp only at h1
    rw [hj] at h1
    exact z_law_ok CX hr hlocks h1 y List.mem_cons_self
  rcases Nat.lt_or_ge i 2 with h | h
  · exact one (z_rng_all zk_0 (by omega) (by omega))
  rcases Nat.lt_or_ge i 3 with h | h
  · have e : i = 2 := by omega
    subst e
    exact one zk_2
  rcases Nat.lt_or_ge i 47 with h | h
  · exact one (z_rng_all zk_3 (by omega) (by omega))
  rcases Nat.lt_or_ge i 69 with h | h
  · exact one (z_rng_all zk_47 (by omega) (by omega))
  rcases Nat.lt_or_ge i 70 with h | h
  · have e : i = 69 := by omega
    subst e
    refine cut [-1, 0, 1, 2] (fun j hj => ?_)
    have hj : j < 5 := hj
    rcases Nat.lt_or_ge j 2 with h | h
    · exact z_rng_all zk_69_0 (by omega) (by omega)
    rcases Nat.lt_or_ge j 3 with h | h
    · have e : j = 2 := by omega
      subst e
      exact zk_69_2
    exact z_rng_all zk_69_3 (by omega) (by omega)
  rcases Nat.lt_or_ge i 71 with h | h
  · have e : i = 70 := by omega
    subst e
    exact one zk_70
  rcases Nat.lt_or_ge i 72 with h | h
  · have e : i = 71 := by omega
    subst e
    refine cut [-1, 0, 1, 2, 3] (fun j hj => ?_)
    have hj : j < 6 := hj
    rcases Nat.lt_or_ge j 2 with h | h
    · exact z_rng_all zk_71_0 (by omega) (by omega)
    rcases Nat.lt_or_ge j 3 with h | h
    · have e : j = 2 := by omega
      subst e
      exact zk_71_2
    rcases Nat.lt_or_ge j 4 with h | h
    · have e : j = 3 := by omega
      subst e
      exact zk_71_3
    exact z_rng_all zk_71_4 (by omega) (by omega)
  exact one (z_rng_all zk_72 (by omega) (by omega))
end ZL
set_option maxHeartbeats 4000000 in
/-- from the entry, for every script of at most 6 ints, the law comes to its end with true -/
theorem whole_start {p : Program} {e : Env} {s : State} {m : MethodId} {below : List Frame} {meth : Method} {c : Code} (l : Launch) {b L : Nat} {xs : Nat → Int32} (hL : L ≤ 6) (C0 : lw_At p s m meth c b L xs) : W p l e room_1 s m #[Value.ref b] below meth c s.heap [] 0 0 (lw_Z below #[Value.ref b] s) (entryFrame m ([Value.ref b] : List Value).toArray 4) := by
  obtain ⟨hx, hb, hr, hml, hown, hts, hX, hbl, hlocks, hgv⟩ := C0
  have hts' : ∀ w ∈ zTb, w.before #[Value.ref b] s = true := fun w hw => hts w (List.mem_filter.mp hw).1
  obtain ⟨D, tys, hK, hTY⟩ := z_world hts'
  have CX : z_CL p s m meth c b L xs D tys := ⟨⟨hx, hb, hml, hown, hts'⟩, (fun h => by cases h), hK, fun q h => h, hTY, ⟨Nat.le_refl _, Nat.le_refl _, by decide, by decide⟩, b, xs, z_r0_7 hL, hX, hbl, by omega, fun j hj => z_r0_j hj⟩
  have main : z_KL p l e s m below meth c b L xs D tys 0 (zS0 L) := by
    rcases (show L = 0 ∨ L = 1 ∨ L = 2 ∨ L = 3 ∨ L = 4 ∨ L = 5 ∨ L = 6 by omega) with rfl | rfl | rfl | rfl | rfl | rfl | rfl
    · exact z_law_ok CX hr hlocks zs_0 _ List.mem_cons_self
    · exact z_law_ok CX hr hlocks zs_1 _ List.mem_cons_self
    · exact z_law_ok CX hr hlocks zs_2 _ List.mem_cons_self
    · exact z_law_ok CX hr hlocks zs_3 _ List.mem_cons_self
    · exact z_law_ok CX hr hlocks zs_4 _ List.mem_cons_self
    · exact z_law_ok CX hr hlocks zs_5 _ List.mem_cons_self
    · exact z_six CX hr hlocks
  have hl := lv_entry ([.ref b]) (n := 4) (Nat.le_of_ble_eq_true rfl)
  rw [lg_entry_eq]
  generalize (lg_sl ([.ref b]) ++ List.replicate (4 - (lg_sl ([.ref b])).length) Slot.unset).toArray = ls at hl ⊢
  exact main (z_r0 L b xs) [] (lv_args 0 [.ref b]) [] s.heap [] ls ⟨⟨List.prefix_refl _, List.prefix_refl _, rfl⟩, z_r0_iv L b xs, ⟨⟨rfl, b, z_r0_7 hL, rfl⟩, trivial⟩, trivial, trivial, (fun k q h => by cases h), ⟨(fun i j p q h => by cases h), (fun k q h => by cases h)⟩, va_S.rf, hl⟩
set_option maxHeartbeats 4000000 in
theorem lw_walk (l : Launch) (b : Addr) (xs : List Int32) : MetFree l x (headSpec (Jvm.Cond.code x code maxLocals ret :: tables_1) room_1) (lw_P b xs) (fun _ _ _ _ _ => True) lw_Q := by
  refine MetFree.of_bodyS (code := code) (maxLocals := maxLocals) (ret := ret) (by decide) ?_ ?_
  · intro args s m h hn
    obtain ⟨meth, c, h1, h2, h3, h4, h5, h6, -, -⟩ := Cond.code_spec hn (atoms_spec (ws := Jvm.Cond.code x code maxLocals ret :: tables_1) h _ List.mem_cons_self)
    exact ⟨meth, c, h1, h2, h3, h4, h5, h6⟩
  · intro p e s m args below meth c s₁ B hml0 hP _
    obtain ⟨rfl, hx, hbd, hgv⟩ := hP
    obtain ⟨scr, harrAt, hlist, hof, hsmall⟩ := hx
    obtain ⟨hcb, hkn, -, -⟩ := State.arrayAt?_spec harrAt
    have hown : s.vm.findClass R_law = some m.cls := findClass_of_methodNamed B.named
    have hts0 : ∀ c ∈ (Jvm.Cond.code x code maxLocals ret :: tables_1), c.before #[Value.ref b] s = true := atoms_spec (ws := Jvm.Cond.code x code maxLocals ret :: tables_1) B.pre
    have hts : ∀ w ∈ lw_tbl, w.before #[Value.ref b] s = true := k2_hts_sels lw_privs (fun w hw => hts0 w (List.mem_cons_of_mem _ hw)) lw_privs_ok
    have hml : c.maxLocals = 4 := B.maxLocals_eq (hts0 _ List.mem_cons_self)
    have X₀ : Stand p l e room_1 s m #[Value.ref b] below meth c s₁ [] 0 0 := Stand.of_body B
    have hh0 : s₁.heap = s.heap := by rw [B.state]; rfl
    have hsz : scr.slots.size = xs.length := by rw [← Array.length_toList, hlist, List.length_map]
    have hval : ∀ j : Nat, j < xs.length → scr.slots[j]? = some (.int (xs.getD j 0)) := fun j hj => by
      rw [← Array.getElem?_toList, hlist]
      simp [hj]
    have hbl : b < s.heap.size := (Array.getElem?_eq_some_iff.mp hcb).1
    have hX : va_X b xs.length (fun j => xs.getD j 0) s s.heap := ⟨scr, hcb, hof, hkn, hsz, hval⟩
    have K : W p l e room_1 s m #[Value.ref b] below meth c s₁.heap [] 0 0 (lw_Z below #[Value.ref b] s) (entryFrame m ([Value.ref b] : List Value).toArray 4) := by
      rw [hh0]
      exact whole_start l hbd ⟨B.exec, B.bytes, B.returns, hml, hown, hts, hX, hbl, B.notSynchronized, hgv⟩
    obtain ⟨t, a1, o, b1, b2, b3⟩ := K s₁ rfl X₀
    exact ⟨t, o, a1, b1, b2, b3⟩
theorem lw_pre_spec {args : Array Value} {s : State} (h : (Jvm.Cond.and given_1 narrow_1).before args s = true) (hr : rest_1_c.before args s = true) : ∃ (b : Addr) (xs : List Int32), lw_P b xs args s := by
  have hs := flat_of_before _ h
  have hq := flat_of_before _ hr
  have hc : (Cond.count 1).before args s = true := hs _ (by decide +kernel)
  have harr : (Cond.arrayOf (.arg 0) .int).before args s = true := hs _ (by decide +kernel)
  have hle : (Cond.le (.length (.arg 0)) (.int 6)).before args s = true := hs _ (by decide +kernel)
  have hlen : (Cond.isInt (.length (.arg 0))).before args s = true := hq _ (by decide +kernel)
  have hall : (Cond.all (.arg 0) (.isInt (.elem (.arg 0) (.index 0)))).before args s = true := hq _ (by decide +kernel)
  obtain ⟨b, xs, hb, hx⟩ := State.ints_of_pre rfl harr hlen hall
  have hsm : xs.length < 2 ^ 31 := hx.choose_spec.2.2.2
  have hev : (Term.length (.arg 0)).eval args s none [] s = some (.int xs.length.toInt32) := hx.length_eval hb
  have hv := Cond.le_ints hev (show (Term.int 6).eval args s none [] s = some (.int 6) from rfl)
  have hd : xs.length.toInt32 ≤ 6 := by
    simpa [Cond.before, Cond.holds, hv] using hle
  have hN : xs.length ≤ 6 := (Int32.ofNat_le_ofNat hsm (by decide)).mp (show Int32.ofNat xs.length ≤ Int32.ofNat 6 from hd)
  exact ⟨b, xs, Cond.one_arg hc (show args[0]? = some (.ref b) from hb), hx, hN, h⟩
theorem lw_comes (l : Launch) : Comes l x (Jvm.Cond.code x code maxLocals ret :: tables_1) room_1 (fun tb e args s => Calls_1 tb e args s ∧ rest_1 tb e args s ∧ Pre_1 tb e args s)
    (fun _ _ args s o t => lw_Q args s o t) := by
  intro p e ha hc hk s m args below hf hfit hheap happ hpre
  obtain ⟨b, xs, hP⟩ := lw_pre_spec hpre.2.2 hpre.2.1
  obtain ⟨k, o, h1, h2, h3, hQ⟩ := lw_walk l b xs p e ha hc hk s m args below hf ((Spec.applies_iff_loose hf).mp happ).1 hP trivial
  exact ⟨k, o, h1, h2, h3, hQ⟩
theorem lw_frame {s t : State} {o : Outcome} {args : Array Value} (h : Framed s o t [] 600000 7302250) :
    Framed s o t (fieldLocs frame_1_writes args s ++ arrayLocs frame_1_arrays args s ++ staticLocs frame_1_statics s) 600000 7302250 := h
theorem lw_limb (L : Cond) (hL : ∀ (args : Array Value) (s t : State), L.after args s (.returned (some (.int 1))) t = true) :
    ArmFor flags0 classFile x code maxLocals ret World_1 tables_1 room_1 Calls_1 rest_1 Pre_1
      (fun tb e a s o t => postC L tb e a s o t ∧ Framed s o t (fieldLocs frame_1_writes a s ++ arrayLocs frame_1_arrays a s ++ staticLocs frame_1_statics s) 600000 7302250) := by
  intro l _ _ _ p e ha hc hk s m args below hf hfit hheap happ hpre
  obtain ⟨k, o, h1, h2, h3, rfl, hF⟩ := lw_comes l p e ha hc hk s m args below hf hfit hheap happ hpre
  exact ⟨k, _, h1, h2, h3, hL args s _, lw_frame hF⟩
theorem i_vc : Claimed_1_1 ∧ Claimed_1_2 := ⟨lw_limb limb_1_1 (fun args s t => by simp [limb_1_1, Cond.after, Cond.holds, Cond.value]), lw_limb limb_1_2 (fun args s t => Cond.after_iff.mpr (by
  first | (rw [show limb_1_2 = Cond.eq .result (.int 1) from rfl, Cond.eq_ints (x := 1) (y := 1) rfl rfl]; simp; done) | (simp [limb_1_2, Cond.value, Term.eval]; done)))⟩
end
