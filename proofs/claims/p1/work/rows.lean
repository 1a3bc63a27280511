section
-- ===== PART A: goes FIRST, ahead of the names: the tables' words, and 'selects' of the private methods out of them =====
/-- a private method of a class that the tables say can be made, by its rows of tables_1 -/
def lw_okq (q : MethodName × Nat) : Prop := (q.1.cls ≠ "java/lang/invoke/MethodHandle" ∧ q.1.cls ≠ "java/lang/invoke/VarHandle") ∧ Cond.instantiable q.1.cls q.2 ∈ tables_1 ∧ Cond.privateMethod q.1 ∈ tables_1 ∧ Cond.instanceMethod q.1 ∈ tables_1
theorem lw_p0 : lw_okq (⟨"WaistcoatGreen$Reader", "next", "()V"⟩, 8) := ⟨⟨by decide +kernel, by decide +kernel⟩, List.mem_of_getElem? (i := 25) (by decide +kernel), List.mem_of_getElem? (i := 348) (by decide +kernel), List.mem_of_getElem? (i := 349) (by decide +kernel)⟩
theorem lw_p1 : lw_okq (⟨"WaistcoatGreen$Reader", "kindAt", "(I)I"⟩, 8) := ⟨⟨by decide +kernel, by decide +kernel⟩, List.mem_of_getElem? (i := 25) (by decide +kernel), List.mem_of_getElem? (i := 352) (by decide +kernel), List.mem_of_getElem? (i := 353) (by decide +kernel)⟩
theorem lw_p2 : lw_okq (⟨"WaistcoatGreen$Reader", "readGreen", "(LWaistcoatGreen$Green;)V"⟩, 8) := ⟨⟨by decide +kernel, by decide +kernel⟩, List.mem_of_getElem? (i := 25) (by decide +kernel), List.mem_of_getElem? (i := 357) (by decide +kernel), List.mem_of_getElem? (i := 358) (by decide +kernel)⟩
theorem lw_p3 : lw_okq (⟨"WaistcoatGreen$Reader", "pass", "(Ljava/lang/String;)V"⟩, 8) := ⟨⟨by decide +kernel, by decide +kernel⟩, List.mem_of_getElem? (i := 25) (by decide +kernel), List.mem_of_getElem? (i := 362) (by decide +kernel), List.mem_of_getElem? (i := 363) (by decide +kernel)⟩
theorem lw_p4 : lw_okq (⟨"WaistcoatGreen$Reader", "isAt", "(Ljava/lang/String;)Z"⟩, 8) := ⟨⟨by decide +kernel, by decide +kernel⟩, List.mem_of_getElem? (i := 25) (by decide +kernel), List.mem_of_getElem? (i := 366) (by decide +kernel), List.mem_of_getElem? (i := 367) (by decide +kernel)⟩
theorem lw_p5 : lw_okq (⟨"WaistcoatGreen$Reader", "blame", "(I)V"⟩, 8) := ⟨⟨by decide +kernel, by decide +kernel⟩, List.mem_of_getElem? (i := 25) (by decide +kernel), List.mem_of_getElem? (i := 418) (by decide +kernel), List.mem_of_getElem? (i := 419) (by decide +kernel)⟩
theorem lw_p6 : lw_okq (⟨"WaistcoatGreen$Reader", "readNamed", "(Ljava/lang/String;II)I"⟩, 8) := ⟨⟨by decide +kernel, by decide +kernel⟩, List.mem_of_getElem? (i := 25) (by decide +kernel), List.mem_of_getElem? (i := 423) (by decide +kernel), List.mem_of_getElem? (i := 424) (by decide +kernel)⟩
theorem lw_p7 : lw_okq (⟨"WaistcoatGreen$Reader", "readNumber", "(III)I"⟩, 8) := ⟨⟨by decide +kernel, by decide +kernel⟩, List.mem_of_getElem? (i := 25) (by decide +kernel), List.mem_of_getElem? (i := 427) (by decide +kernel), List.mem_of_getElem? (i := 428) (by decide +kernel)⟩
theorem lw_p8 : lw_okq (⟨"WaistcoatGreen$Reader", "readVillager", "(LWaistcoatGreen$Green;)V"⟩, 8) := ⟨⟨by decide +kernel, by decide +kernel⟩, List.mem_of_getElem? (i := 25) (by decide +kernel), List.mem_of_getElem? (i := 436) (by decide +kernel), List.mem_of_getElem? (i := 437) (by decide +kernel)⟩
theorem lw_p9 : lw_okq (⟨"WaistcoatGreen$Reader", "readWears", "(LWaistcoatGreen$Green;)V"⟩, 8) := ⟨⟨by decide +kernel, by decide +kernel⟩, List.mem_of_getElem? (i := 25) (by decide +kernel), List.mem_of_getElem? (i := 443) (by decide +kernel), List.mem_of_getElem? (i := 444) (by decide +kernel)⟩
theorem lw_p10 : lw_okq (⟨"WaistcoatGreen$Reader", "readHand", "(LWaistcoatGreen$Green;)V"⟩, 8) := ⟨⟨by decide +kernel, by decide +kernel⟩, List.mem_of_getElem? (i := 25) (by decide +kernel), List.mem_of_getElem? (i := 452) (by decide +kernel), List.mem_of_getElem? (i := 453) (by decide +kernel)⟩
theorem lw_p11 : lw_okq (⟨"WaistcoatGreen$Reader", "readFrost", "(LWaistcoatGreen$Green;)V"⟩, 8) := ⟨⟨by decide +kernel, by decide +kernel⟩, List.mem_of_getElem? (i := 25) (by decide +kernel), List.mem_of_getElem? (i := 461) (by decide +kernel), List.mem_of_getElem? (i := 462) (by decide +kernel)⟩
theorem lw_p12 : lw_okq (⟨"WaistcoatGreen$Reader", "closeLine", "(LWaistcoatGreen$Green;)V"⟩, 8) := ⟨⟨by decide +kernel, by decide +kernel⟩, List.mem_of_getElem? (i := 25) (by decide +kernel), List.mem_of_getElem? (i := 470) (by decide +kernel), List.mem_of_getElem? (i := 471) (by decide +kernel)⟩
theorem lw_p13 : lw_okq (⟨"WaistcoatGreen", "settle", "()V"⟩, 11) := ⟨⟨by decide +kernel, by decide +kernel⟩, List.mem_of_getElem? (i := 17) (by decide +kernel), List.mem_of_getElem? (i := 481) (by decide +kernel), List.mem_of_getElem? (i := 482) (by decide +kernel)⟩
theorem lw_p14 : lw_okq (⟨"WaistcoatGreen$Winter", "giveTo", "(I)V"⟩, 12) := ⟨⟨by decide +kernel, by decide +kernel⟩, List.mem_of_getElem? (i := 160) (by decide +kernel), List.mem_of_getElem? (i := 494) (by decide +kernel), List.mem_of_getElem? (i := 495) (by decide +kernel)⟩
theorem lw_p15 : lw_okq (⟨"WaistcoatGreen$Winter", "countSongs", "()V"⟩, 12) := ⟨⟨by decide +kernel, by decide +kernel⟩, List.mem_of_getElem? (i := 160) (by decide +kernel), List.mem_of_getElem? (i := 498) (by decide +kernel), List.mem_of_getElem? (i := 499) (by decide +kernel)⟩
def lw_privs_1 : List (MethodName × Nat) := [(⟨"WaistcoatGreen$Reader", "next", "()V"⟩, 8), (⟨"WaistcoatGreen$Reader", "kindAt", "(I)I"⟩, 8), (⟨"WaistcoatGreen$Reader", "readGreen", "(LWaistcoatGreen$Green;)V"⟩, 8), (⟨"WaistcoatGreen$Reader", "pass", "(Ljava/lang/String;)V"⟩, 8), (⟨"WaistcoatGreen$Reader", "isAt", "(Ljava/lang/String;)Z"⟩, 8), (⟨"WaistcoatGreen$Reader", "blame", "(I)V"⟩, 8), (⟨"WaistcoatGreen$Reader", "readNamed", "(Ljava/lang/String;II)I"⟩, 8), (⟨"WaistcoatGreen$Reader", "readNumber", "(III)I"⟩, 8), (⟨"WaistcoatGreen$Reader", "readVillager", "(LWaistcoatGreen$Green;)V"⟩, 8), (⟨"WaistcoatGreen$Reader", "readWears", "(LWaistcoatGreen$Green;)V"⟩, 8), (⟨"WaistcoatGreen$Reader", "readHand", "(LWaistcoatGreen$Green;)V"⟩, 8), (⟨"WaistcoatGreen$Reader", "readFrost", "(LWaistcoatGreen$Green;)V"⟩, 8), (⟨"WaistcoatGreen$Reader", "closeLine", "(LWaistcoatGreen$Green;)V"⟩, 8), (⟨"WaistcoatGreen", "settle", "()V"⟩, 11), (⟨"WaistcoatGreen$Winter", "giveTo", "(I)V"⟩, 12), (⟨"WaistcoatGreen$Winter", "countSongs", "()V"⟩, 12)]
theorem lw_r1 : ∀ q ∈ lw_privs_1, lw_okq q := List.forall_mem_cons.mpr ⟨lw_p0, List.forall_mem_cons.mpr ⟨lw_p1, List.forall_mem_cons.mpr ⟨lw_p2, List.forall_mem_cons.mpr ⟨lw_p3, List.forall_mem_cons.mpr ⟨lw_p4, List.forall_mem_cons.mpr ⟨lw_p5, List.forall_mem_cons.mpr ⟨lw_p6, List.forall_mem_cons.mpr ⟨lw_p7, List.forall_mem_cons.mpr ⟨lw_p8, List.forall_mem_cons.mpr ⟨lw_p9, List.forall_mem_cons.mpr ⟨lw_p10, List.forall_mem_cons.mpr ⟨lw_p11, List.forall_mem_cons.mpr ⟨lw_p12, List.forall_mem_cons.mpr ⟨lw_p13, List.forall_mem_cons.mpr ⟨lw_p14, List.forall_mem_cons.mpr ⟨lw_p15, fun _ h => absurd h List.not_mem_nil⟩⟩⟩⟩⟩⟩⟩⟩⟩⟩⟩⟩⟩⟩⟩⟩
theorem lw_p16 : lw_okq (⟨"WaistcoatGreen$Winter", "passedByLaw", "(I)I"⟩, 12) := ⟨⟨by decide +kernel, by decide +kernel⟩, List.mem_of_getElem? (i := 160) (by decide +kernel), List.mem_of_getElem? (i := 516) (by decide +kernel), List.mem_of_getElem? (i := 517) (by decide +kernel)⟩
theorem lw_p17 : lw_okq (⟨"WaistcoatGreen$Winter", "isPreferred", "(III)Z"⟩, 12) := ⟨⟨by decide +kernel, by decide +kernel⟩, List.mem_of_getElem? (i := 160) (by decide +kernel), List.mem_of_getElem? (i := 540) (by decide +kernel), List.mem_of_getElem? (i := 541) (by decide +kernel)⟩
theorem lw_p18 : lw_okq (⟨"WaistcoatGreen", "leastCover", "()I"⟩, 11) := ⟨⟨by decide +kernel, by decide +kernel⟩, List.mem_of_getElem? (i := 17) (by decide +kernel), List.mem_of_getElem? (i := 589) (by decide +kernel), List.mem_of_getElem? (i := 590) (by decide +kernel)⟩
theorem lw_p19 : lw_okq (⟨"WaistcoatGreen", "morningsWith", "(I)I"⟩, 11) := ⟨⟨by decide +kernel, by decide +kernel⟩, List.mem_of_getElem? (i := 17) (by decide +kernel), List.mem_of_getElem? (i := 647) (by decide +kernel), List.mem_of_getElem? (i := 648) (by decide +kernel)⟩
theorem lw_p20 : lw_okq (⟨"WaistcoatGreen", "firstWith", "(I)I"⟩, 11) := ⟨⟨by decide +kernel, by decide +kernel⟩, List.mem_of_getElem? (i := 17) (by decide +kernel), List.mem_of_getElem? (i := 655) (by decide +kernel), List.mem_of_getElem? (i := 656) (by decide +kernel)⟩
theorem lw_p21 : lw_okq (⟨"WaistcoatGreen", "bestLie", "(I)I"⟩, 11) := ⟨⟨by decide +kernel, by decide +kernel⟩, List.mem_of_getElem? (i := 17) (by decide +kernel), List.mem_of_getElem? (i := 764) (by decide +kernel), List.mem_of_getElem? (i := 765) (by decide +kernel)⟩
theorem lw_p22 : lw_okq (⟨"WaistcoatGreen", "gainOf", "(I)I"⟩, 11) := ⟨⟨by decide +kernel, by decide +kernel⟩, List.mem_of_getElem? (i := 17) (by decide +kernel), List.mem_of_getElem? (i := 776) (by decide +kernel), List.mem_of_getElem? (i := 777) (by decide +kernel)⟩
theorem lw_p23 : lw_okq (⟨"WaistcoatGreen", "sumTried", "()I"⟩, 11) := ⟨⟨by decide +kernel, by decide +kernel⟩, List.mem_of_getElem? (i := 17) (by decide +kernel), List.mem_of_getElem? (i := 788) (by decide +kernel), List.mem_of_getElem? (i := 789) (by decide +kernel)⟩
theorem lw_p24 : lw_okq (⟨"WaistcoatGreen", "sumJoined", "(II)I"⟩, 11) := ⟨⟨by decide +kernel, by decide +kernel⟩, List.mem_of_getElem? (i := 17) (by decide +kernel), List.mem_of_getElem? (i := 796) (by decide +kernel), List.mem_of_getElem? (i := 797) (by decide +kernel)⟩
theorem lw_p25 : lw_okq (⟨"WaistcoatGreen", "canPlan", "(I)Z"⟩, 11) := ⟨⟨by decide +kernel, by decide +kernel⟩, List.mem_of_getElem? (i := 17) (by decide +kernel), List.mem_of_getElem? (i := 804) (by decide +kernel), List.mem_of_getElem? (i := 805) (by decide +kernel)⟩
theorem lw_p26 : lw_okq (⟨"WaistcoatGreen$Planner", "weigh", "(I)V"⟩, 5) := ⟨⟨by decide +kernel, by decide +kernel⟩, List.mem_of_getElem? (i := 214) (by decide +kernel), List.mem_of_getElem? (i := 820) (by decide +kernel), List.mem_of_getElem? (i := 821) (by decide +kernel)⟩
theorem lw_p27 : lw_okq (⟨"WaistcoatGreen$Planner", "canGo", "(II)Z"⟩, 5) := ⟨⟨by decide +kernel, by decide +kernel⟩, List.mem_of_getElem? (i := 214) (by decide +kernel), List.mem_of_getElem? (i := 825) (by decide +kernel), List.mem_of_getElem? (i := 826) (by decide +kernel)⟩
theorem lw_p28 : lw_okq (⟨"WaistcoatGreen", "guessCold", "(II)I"⟩, 11) := ⟨⟨by decide +kernel, by decide +kernel⟩, List.mem_of_getElem? (i := 17) (by decide +kernel), List.mem_of_getElem? (i := 843) (by decide +kernel), List.mem_of_getElem? (i := 844) (by decide +kernel)⟩
theorem lw_p29 : lw_okq (⟨"WaistcoatGreen", "whyNotSeen", "(I)I"⟩, 11) := ⟨⟨by decide +kernel, by decide +kernel⟩, List.mem_of_getElem? (i := 17) (by decide +kernel), List.mem_of_getElem? (i := 847) (by decide +kernel), List.mem_of_getElem? (i := 848) (by decide +kernel)⟩
theorem lw_p30 : lw_okq (⟨"WaistcoatGreen", "sumByLaw", "(I)I"⟩, 11) := ⟨⟨by decide +kernel, by decide +kernel⟩, List.mem_of_getElem? (i := 17) (by decide +kernel), List.mem_of_getElem? (i := 908) (by decide +kernel), List.mem_of_getElem? (i := 909) (by decide +kernel)⟩
theorem lw_p31 : lw_okq (⟨"WaistcoatGreen", "worthOf", "(I)I"⟩, 11) := ⟨⟨by decide +kernel, by decide +kernel⟩, List.mem_of_getElem? (i := 17) (by decide +kernel), List.mem_of_getElem? (i := 920) (by decide +kernel), List.mem_of_getElem? (i := 921) (by decide +kernel)⟩
def lw_privs_2 : List (MethodName × Nat) := [(⟨"WaistcoatGreen$Winter", "passedByLaw", "(I)I"⟩, 12), (⟨"WaistcoatGreen$Winter", "isPreferred", "(III)Z"⟩, 12), (⟨"WaistcoatGreen", "leastCover", "()I"⟩, 11), (⟨"WaistcoatGreen", "morningsWith", "(I)I"⟩, 11), (⟨"WaistcoatGreen", "firstWith", "(I)I"⟩, 11), (⟨"WaistcoatGreen", "bestLie", "(I)I"⟩, 11), (⟨"WaistcoatGreen", "gainOf", "(I)I"⟩, 11), (⟨"WaistcoatGreen", "sumTried", "()I"⟩, 11), (⟨"WaistcoatGreen", "sumJoined", "(II)I"⟩, 11), (⟨"WaistcoatGreen", "canPlan", "(I)Z"⟩, 11), (⟨"WaistcoatGreen$Planner", "weigh", "(I)V"⟩, 5), (⟨"WaistcoatGreen$Planner", "canGo", "(II)Z"⟩, 5), (⟨"WaistcoatGreen", "guessCold", "(II)I"⟩, 11), (⟨"WaistcoatGreen", "whyNotSeen", "(I)I"⟩, 11), (⟨"WaistcoatGreen", "sumByLaw", "(I)I"⟩, 11), (⟨"WaistcoatGreen", "worthOf", "(I)I"⟩, 11)]
theorem lw_r2 : ∀ q ∈ lw_privs_2, lw_okq q := List.forall_mem_cons.mpr ⟨lw_p16, List.forall_mem_cons.mpr ⟨lw_p17, List.forall_mem_cons.mpr ⟨lw_p18, List.forall_mem_cons.mpr ⟨lw_p19, List.forall_mem_cons.mpr ⟨lw_p20, List.forall_mem_cons.mpr ⟨lw_p21, List.forall_mem_cons.mpr ⟨lw_p22, List.forall_mem_cons.mpr ⟨lw_p23, List.forall_mem_cons.mpr ⟨lw_p24, List.forall_mem_cons.mpr ⟨lw_p25, List.forall_mem_cons.mpr ⟨lw_p26, List.forall_mem_cons.mpr ⟨lw_p27, List.forall_mem_cons.mpr ⟨lw_p28, List.forall_mem_cons.mpr ⟨lw_p29, List.forall_mem_cons.mpr ⟨lw_p30, List.forall_mem_cons.mpr ⟨lw_p31, fun _ h => absurd h List.not_mem_nil⟩⟩⟩⟩⟩⟩⟩⟩⟩⟩⟩⟩⟩⟩⟩⟩
theorem lw_p32 : lw_okq (⟨"WaistcoatGreen", "areTwo", "(II)Z"⟩, 11) := ⟨⟨by decide +kernel, by decide +kernel⟩, List.mem_of_getElem? (i := 17) (by decide +kernel), List.mem_of_getElem? (i := 946) (by decide +kernel), List.mem_of_getElem? (i := 947) (by decide +kernel)⟩
theorem lw_p33 : lw_okq (⟨"WaistcoatGreen", "isAtRest", "(IIII)Z"⟩, 11) := ⟨⟨by decide +kernel, by decide +kernel⟩, List.mem_of_getElem? (i := 17) (by decide +kernel), List.mem_of_getElem? (i := 950) (by decide +kernel), List.mem_of_getElem? (i := 951) (by decide +kernel)⟩
theorem lw_p34 : lw_okq (⟨"WaistcoatGreen", "winOf", "(IIII)I"⟩, 11) := ⟨⟨by decide +kernel, by decide +kernel⟩, List.mem_of_getElem? (i := 17) (by decide +kernel), List.mem_of_getElem? (i := 954) (by decide +kernel), List.mem_of_getElem? (i := 955) (by decide +kernel)⟩
theorem lw_p35 : lw_okq (⟨"WaistcoatGreen", "canChance", "(I)Z"⟩, 11) := ⟨⟨by decide +kernel, by decide +kernel⟩, List.mem_of_getElem? (i := 17) (by decide +kernel), List.mem_of_getElem? (i := 966) (by decide +kernel), List.mem_of_getElem? (i := 967) (by decide +kernel)⟩
theorem lw_p36 : lw_okq (⟨"WaistcoatGreen", "tryWinter", "(II)J"⟩, 11) := ⟨⟨by decide +kernel, by decide +kernel⟩, List.mem_of_getElem? (i := 17) (by decide +kernel), List.mem_of_getElem? (i := 970) (by decide +kernel), List.mem_of_getElem? (i := 971) (by decide +kernel)⟩
theorem lw_p37 : lw_okq (⟨"WaistcoatGreen", "drawHard", "(I)I"⟩, 11) := ⟨⟨by decide +kernel, by decide +kernel⟩, List.mem_of_getElem? (i := 17) (by decide +kernel), List.mem_of_getElem? (i := 1010) (by decide +kernel), List.mem_of_getElem? (i := 1011) (by decide +kernel)⟩
theorem lw_p38 : lw_okq (⟨"WaistcoatGreen", "slotsWithRow", "()I"⟩, 11) := ⟨⟨by decide +kernel, by decide +kernel⟩, List.mem_of_getElem? (i := 17) (by decide +kernel), List.mem_of_getElem? (i := 1035) (by decide +kernel), List.mem_of_getElem? (i := 1036) (by decide +kernel)⟩
theorem lw_p39 : lw_okq (⟨"WaistcoatGreenModel", "four", "(I)V"⟩, 47) := ⟨⟨by decide +kernel, by decide +kernel⟩, List.mem_of_getElem? (i := 1072) (by decide +kernel), List.mem_of_getElem? (i := 1246) (by decide +kernel), List.mem_of_getElem? (i := 1247) (by decide +kernel)⟩
theorem lw_p40 : lw_okq (⟨"WaistcoatGreenModel", "clears", "()V"⟩, 47) := ⟨⟨by decide +kernel, by decide +kernel⟩, List.mem_of_getElem? (i := 1072) (by decide +kernel), List.mem_of_getElem? (i := 1262) (by decide +kernel), List.mem_of_getElem? (i := 1263) (by decide +kernel)⟩
theorem lw_p41 : lw_okq (⟨"WaistcoatGreenModel", "tells", "(II)V"⟩, 47) := ⟨⟨by decide +kernel, by decide +kernel⟩, List.mem_of_getElem? (i := 1072) (by decide +kernel), List.mem_of_getElem? (i := 1266) (by decide +kernel), List.mem_of_getElem? (i := 1267) (by decide +kernel)⟩
theorem lw_p42 : lw_okq (⟨"WaistcoatGreenModel", "begins", "()V"⟩, 47) := ⟨⟨by decide +kernel, by decide +kernel⟩, List.mem_of_getElem? (i := 1072) (by decide +kernel), List.mem_of_getElem? (i := 1270) (by decide +kernel), List.mem_of_getElem? (i := 1271) (by decide +kernel)⟩
theorem lw_p43 : lw_okq (⟨"WaistcoatGreenModel", "next", "()V"⟩, 47) := ⟨⟨by decide +kernel, by decide +kernel⟩, List.mem_of_getElem? (i := 1072) (by decide +kernel), List.mem_of_getElem? (i := 1274) (by decide +kernel), List.mem_of_getElem? (i := 1275) (by decide +kernel)⟩
theorem lw_p44 : lw_okq (⟨"WaistcoatGreenModel", "isByte", "(III)Z"⟩, 47) := ⟨⟨by decide +kernel, by decide +kernel⟩, List.mem_of_getElem? (i := 1072) (by decide +kernel), List.mem_of_getElem? (i := 1278) (by decide +kernel), List.mem_of_getElem? (i := 1279) (by decide +kernel)⟩
theorem lw_p45 : lw_okq (⟨"WaistcoatGreenModel", "isGood", "()Z"⟩, 47) := ⟨⟨by decide +kernel, by decide +kernel⟩, List.mem_of_getElem? (i := 1072) (by decide +kernel), List.mem_of_getElem? (i := 1287) (by decide +kernel), List.mem_of_getElem? (i := 1288) (by decide +kernel)⟩
theorem lw_p46 : lw_okq (⟨"WaistcoatGreenModel", "asks", "(J)V"⟩, 47) := ⟨⟨by decide +kernel, by decide +kernel⟩, List.mem_of_getElem? (i := 1072) (by decide +kernel), List.mem_of_getElem? (i := 1292) (by decide +kernel), List.mem_of_getElem? (i := 1293) (by decide +kernel)⟩
theorem lw_p47 : lw_okq (⟨"WaistcoatGreenModel", "takesWord", "(J)Z"⟩, 47) := ⟨⟨by decide +kernel, by decide +kernel⟩, List.mem_of_getElem? (i := 1072) (by decide +kernel), List.mem_of_getElem? (i := 1296) (by decide +kernel), List.mem_of_getElem? (i := 1297) (by decide +kernel)⟩
def lw_privs_3 : List (MethodName × Nat) := [(⟨"WaistcoatGreen", "areTwo", "(II)Z"⟩, 11), (⟨"WaistcoatGreen", "isAtRest", "(IIII)Z"⟩, 11), (⟨"WaistcoatGreen", "winOf", "(IIII)I"⟩, 11), (⟨"WaistcoatGreen", "canChance", "(I)Z"⟩, 11), (⟨"WaistcoatGreen", "tryWinter", "(II)J"⟩, 11), (⟨"WaistcoatGreen", "drawHard", "(I)I"⟩, 11), (⟨"WaistcoatGreen", "slotsWithRow", "()I"⟩, 11), (⟨"WaistcoatGreenModel", "four", "(I)V"⟩, 47), (⟨"WaistcoatGreenModel", "clears", "()V"⟩, 47), (⟨"WaistcoatGreenModel", "tells", "(II)V"⟩, 47), (⟨"WaistcoatGreenModel", "begins", "()V"⟩, 47), (⟨"WaistcoatGreenModel", "next", "()V"⟩, 47), (⟨"WaistcoatGreenModel", "isByte", "(III)Z"⟩, 47), (⟨"WaistcoatGreenModel", "isGood", "()Z"⟩, 47), (⟨"WaistcoatGreenModel", "asks", "(J)V"⟩, 47), (⟨"WaistcoatGreenModel", "takesWord", "(J)Z"⟩, 47)]
theorem lw_r3 : ∀ q ∈ lw_privs_3, lw_okq q := List.forall_mem_cons.mpr ⟨lw_p32, List.forall_mem_cons.mpr ⟨lw_p33, List.forall_mem_cons.mpr ⟨lw_p34, List.forall_mem_cons.mpr ⟨lw_p35, List.forall_mem_cons.mpr ⟨lw_p36, List.forall_mem_cons.mpr ⟨lw_p37, List.forall_mem_cons.mpr ⟨lw_p38, List.forall_mem_cons.mpr ⟨lw_p39, List.forall_mem_cons.mpr ⟨lw_p40, List.forall_mem_cons.mpr ⟨lw_p41, List.forall_mem_cons.mpr ⟨lw_p42, List.forall_mem_cons.mpr ⟨lw_p43, List.forall_mem_cons.mpr ⟨lw_p44, List.forall_mem_cons.mpr ⟨lw_p45, List.forall_mem_cons.mpr ⟨lw_p46, List.forall_mem_cons.mpr ⟨lw_p47, fun _ h => absurd h List.not_mem_nil⟩⟩⟩⟩⟩⟩⟩⟩⟩⟩⟩⟩⟩⟩⟩⟩
theorem lw_p48 : lw_okq (⟨"WaistcoatGreenModel", "is", "(J)Z"⟩, 47) := ⟨⟨by decide +kernel, by decide +kernel⟩, List.mem_of_getElem? (i := 1072) (by decide +kernel), List.mem_of_getElem? (i := 1300) (by decide +kernel), List.mem_of_getElem? (i := 1301) (by decide +kernel)⟩
theorem lw_p49 : lw_okq (⟨"WaistcoatGreenModel", "fails", "(I)V"⟩, 47) := ⟨⟨by decide +kernel, by decide +kernel⟩, List.mem_of_getElem? (i := 1072) (by decide +kernel), List.mem_of_getElem? (i := 1304) (by decide +kernel), List.mem_of_getElem? (i := 1305) (by decide +kernel)⟩
theorem lw_p50 : lw_okq (⟨"WaistcoatGreenModel", "number", "(JII)I"⟩, 47) := ⟨⟨by decide +kernel, by decide +kernel⟩, List.mem_of_getElem? (i := 1072) (by decide +kernel), List.mem_of_getElem? (i := 1309) (by decide +kernel), List.mem_of_getElem? (i := 1310) (by decide +kernel)⟩
theorem lw_p51 : lw_okq (⟨"WaistcoatGreenModel", "number", "(II)I"⟩, 47) := ⟨⟨by decide +kernel, by decide +kernel⟩, List.mem_of_getElem? (i := 1072) (by decide +kernel), List.mem_of_getElem? (i := 1313) (by decide +kernel), List.mem_of_getElem? (i := 1314) (by decide +kernel)⟩
theorem lw_p52 : lw_okq (⟨"WaistcoatGreenModel", "lineHere", "()V"⟩, 47) := ⟨⟨by decide +kernel, by decide +kernel⟩, List.mem_of_getElem? (i := 1072) (by decide +kernel), List.mem_of_getElem? (i := 1321) (by decide +kernel), List.mem_of_getElem? (i := 1322) (by decide +kernel)⟩
theorem lw_p53 : lw_okq (⟨"WaistcoatGreenModel", "isRoom", "(ZII)Z"⟩, 47) := ⟨⟨by decide +kernel, by decide +kernel⟩, List.mem_of_getElem? (i := 1072) (by decide +kernel), List.mem_of_getElem? (i := 1326) (by decide +kernel), List.mem_of_getElem? (i := 1327) (by decide +kernel)⟩
theorem lw_p54 : lw_okq (⟨"WaistcoatGreenModel", "hasRead", "(I)I"⟩, 47) := ⟨⟨by decide +kernel, by decide +kernel⟩, List.mem_of_getElem? (i := 1072) (by decide +kernel), List.mem_of_getElem? (i := 1330) (by decide +kernel), List.mem_of_getElem? (i := 1331) (by decide +kernel)⟩
theorem lw_p55 : lw_okq (⟨"WaistcoatGreenModel", "villagerLine", "()V"⟩, 47) := ⟨⟨by decide +kernel, by decide +kernel⟩, List.mem_of_getElem? (i := 1072) (by decide +kernel), List.mem_of_getElem? (i := 1334) (by decide +kernel), List.mem_of_getElem? (i := 1335) (by decide +kernel)⟩
theorem lw_p56 : lw_okq (⟨"WaistcoatGreenModel", "handLine", "()V"⟩, 47) := ⟨⟨by decide +kernel, by decide +kernel⟩, List.mem_of_getElem? (i := 1072) (by decide +kernel), List.mem_of_getElem? (i := 1342) (by decide +kernel), List.mem_of_getElem? (i := 1343) (by decide +kernel)⟩
theorem lw_p57 : lw_okq (⟨"WaistcoatGreenModel", "manHere", "()I"⟩, 47) := ⟨⟨by decide +kernel, by decide +kernel⟩, List.mem_of_getElem? (i := 1072) (by decide +kernel), List.mem_of_getElem? (i := 1346) (by decide +kernel), List.mem_of_getElem? (i := 1347) (by decide +kernel)⟩
theorem lw_p58 : lw_okq (⟨"WaistcoatGreenModel", "frostLine", "()V"⟩, 47) := ⟨⟨by decide +kernel, by decide +kernel⟩, List.mem_of_getElem? (i := 1072) (by decide +kernel), List.mem_of_getElem? (i := 1351) (by decide +kernel), List.mem_of_getElem? (i := 1352) (by decide +kernel)⟩
theorem lw_p59 : lw_okq (⟨"WaistcoatGreenModel", "ends", "()V"⟩, 47) := ⟨⟨by decide +kernel, by decide +kernel⟩, List.mem_of_getElem? (i := 1072) (by decide +kernel), List.mem_of_getElem? (i := 1356) (by decide +kernel), List.mem_of_getElem? (i := 1357) (by decide +kernel)⟩
theorem lw_p60 : lw_okq (⟨"WaistcoatGreenModel", "isOver", "()V"⟩, 47) := ⟨⟨by decide +kernel, by decide +kernel⟩, List.mem_of_getElem? (i := 1072) (by decide +kernel), List.mem_of_getElem? (i := 1360) (by decide +kernel), List.mem_of_getElem? (i := 1361) (by decide +kernel)⟩
theorem lw_p61 : lw_okq (⟨"WaistcoatGreenModel", "copyGreen", "(II)V"⟩, 47) := ⟨⟨by decide +kernel, by decide +kernel⟩, List.mem_of_getElem? (i := 1072) (by decide +kernel), List.mem_of_getElem? (i := 1364) (by decide +kernel), List.mem_of_getElem? (i := 1365) (by decide +kernel)⟩
theorem lw_p62 : lw_okq (⟨"WaistcoatGreenModel", "isMan", "(J)Z"⟩, 47) := ⟨⟨by decide +kernel, by decide +kernel⟩, List.mem_of_getElem? (i := 1072) (by decide +kernel), List.mem_of_getElem? (i := 1375) (by decide +kernel), List.mem_of_getElem? (i := 1376) (by decide +kernel)⟩
theorem lw_p63 : lw_okq (⟨"WaistcoatGreenModel", "folk", "()I"⟩, 47) := ⟨⟨by decide +kernel, by decide +kernel⟩, List.mem_of_getElem? (i := 1072) (by decide +kernel), List.mem_of_getElem? (i := 1379) (by decide +kernel), List.mem_of_getElem? (i := 1380) (by decide +kernel)⟩
def lw_privs_4 : List (MethodName × Nat) := [(⟨"WaistcoatGreenModel", "is", "(J)Z"⟩, 47), (⟨"WaistcoatGreenModel", "fails", "(I)V"⟩, 47), (⟨"WaistcoatGreenModel", "number", "(JII)I"⟩, 47), (⟨"WaistcoatGreenModel", "number", "(II)I"⟩, 47), (⟨"WaistcoatGreenModel", "lineHere", "()V"⟩, 47), (⟨"WaistcoatGreenModel", "isRoom", "(ZII)Z"⟩, 47), (⟨"WaistcoatGreenModel", "hasRead", "(I)I"⟩, 47), (⟨"WaistcoatGreenModel", "villagerLine", "()V"⟩, 47), (⟨"WaistcoatGreenModel", "handLine", "()V"⟩, 47), (⟨"WaistcoatGreenModel", "manHere", "()I"⟩, 47), (⟨"WaistcoatGreenModel", "frostLine", "()V"⟩, 47), (⟨"WaistcoatGreenModel", "ends", "()V"⟩, 47), (⟨"WaistcoatGreenModel", "isOver", "()V"⟩, 47), (⟨"WaistcoatGreenModel", "copyGreen", "(II)V"⟩, 47), (⟨"WaistcoatGreenModel", "isMan", "(J)Z"⟩, 47), (⟨"WaistcoatGreenModel", "folk", "()I"⟩, 47)]
theorem lw_r4 : ∀ q ∈ lw_privs_4, lw_okq q := List.forall_mem_cons.mpr ⟨lw_p48, List.forall_mem_cons.mpr ⟨lw_p49, List.forall_mem_cons.mpr ⟨lw_p50, List.forall_mem_cons.mpr ⟨lw_p51, List.forall_mem_cons.mpr ⟨lw_p52, List.forall_mem_cons.mpr ⟨lw_p53, List.forall_mem_cons.mpr ⟨lw_p54, List.forall_mem_cons.mpr ⟨lw_p55, List.forall_mem_cons.mpr ⟨lw_p56, List.forall_mem_cons.mpr ⟨lw_p57, List.forall_mem_cons.mpr ⟨lw_p58, List.forall_mem_cons.mpr ⟨lw_p59, List.forall_mem_cons.mpr ⟨lw_p60, List.forall_mem_cons.mpr ⟨lw_p61, List.forall_mem_cons.mpr ⟨lw_p62, List.forall_mem_cons.mpr ⟨lw_p63, fun _ h => absurd h List.not_mem_nil⟩⟩⟩⟩⟩⟩⟩⟩⟩⟩⟩⟩⟩⟩⟩⟩
theorem lw_p64 : lw_okq (⟨"WaistcoatGreenModel", "lays", "()V"⟩, 47) := ⟨⟨by decide +kernel, by decide +kernel⟩, List.mem_of_getElem? (i := 1072) (by decide +kernel), List.mem_of_getElem? (i := 1390) (by decide +kernel), List.mem_of_getElem? (i := 1391) (by decide +kernel)⟩
theorem lw_p65 : lw_okq (⟨"WaistcoatGreenModel", "joins", "(II)V"⟩, 47) := ⟨⟨by decide +kernel, by decide +kernel⟩, List.mem_of_getElem? (i := 1072) (by decide +kernel), List.mem_of_getElem? (i := 1394) (by decide +kernel), List.mem_of_getElem? (i := 1395) (by decide +kernel)⟩
theorem lw_p66 : lw_okq (⟨"WaistcoatGreenModel", "reachOf", "(I)I"⟩, 47) := ⟨⟨by decide +kernel, by decide +kernel⟩, List.mem_of_getElem? (i := 1072) (by decide +kernel), List.mem_of_getElem? (i := 1409) (by decide +kernel), List.mem_of_getElem? (i := 1410) (by decide +kernel)⟩
theorem lw_p67 : lw_okq (⟨"WaistcoatGreenModel", "isGreen", "()Z"⟩, 47) := ⟨⟨by decide +kernel, by decide +kernel⟩, List.mem_of_getElem? (i := 1072) (by decide +kernel), List.mem_of_getElem? (i := 1417) (by decide +kernel), List.mem_of_getElem? (i := 1418) (by decide +kernel)⟩
theorem lw_p68 : lw_okq (⟨"WaistcoatGreenModel", "coverOf", "()I"⟩, 47) := ⟨⟨by decide +kernel, by decide +kernel⟩, List.mem_of_getElem? (i := 1072) (by decide +kernel), List.mem_of_getElem? (i := 1421) (by decide +kernel), List.mem_of_getElem? (i := 1422) (by decide +kernel)⟩
theorem lw_p69 : lw_okq (⟨"WaistcoatGreenModel", "isMorning", "(J)Z"⟩, 47) := ⟨⟨by decide +kernel, by decide +kernel⟩, List.mem_of_getElem? (i := 1072) (by decide +kernel), List.mem_of_getElem? (i := 1436) (by decide +kernel), List.mem_of_getElem? (i := 1437) (by decide +kernel)⟩
theorem lw_p70 : lw_okq (⟨"WaistcoatGreenModel", "mornings", "()I"⟩, 47) := ⟨⟨by decide +kernel, by decide +kernel⟩, List.mem_of_getElem? (i := 1072) (by decide +kernel), List.mem_of_getElem? (i := 1440) (by decide +kernel), List.mem_of_getElem? (i := 1441) (by decide +kernel)⟩
theorem lw_p71 : lw_okq (⟨"WaistcoatGreenModel", "laysNow", "()V"⟩, 47) := ⟨⟨by decide +kernel, by decide +kernel⟩, List.mem_of_getElem? (i := 1072) (by decide +kernel), List.mem_of_getElem? (i := 1444) (by decide +kernel), List.mem_of_getElem? (i := 1445) (by decide +kernel)⟩
theorem lw_p72 : lw_okq (⟨"WaistcoatGreenModel", "runs", "()V"⟩, 47) := ⟨⟨by decide +kernel, by decide +kernel⟩, List.mem_of_getElem? (i := 1072) (by decide +kernel), List.mem_of_getElem? (i := 1448) (by decide +kernel), List.mem_of_getElem? (i := 1449) (by decide +kernel)⟩
theorem lw_p73 : lw_okq (⟨"WaistcoatGreenModel", "sung", "(III)I"⟩, 47) := ⟨⟨by decide +kernel, by decide +kernel⟩, List.mem_of_getElem? (i := 1072) (by decide +kernel), List.mem_of_getElem? (i := 1452) (by decide +kernel), List.mem_of_getElem? (i := 1453) (by decide +kernel)⟩
theorem lw_p74 : lw_okq (⟨"WaistcoatGreenModel", "givenAt", "(I)I"⟩, 47) := ⟨⟨by decide +kernel, by decide +kernel⟩, List.mem_of_getElem? (i := 1072) (by decide +kernel), List.mem_of_getElem? (i := 1459) (by decide +kernel), List.mem_of_getElem? (i := 1460) (by decide +kernel)⟩
theorem lw_p75 : lw_okq (⟨"WaistcoatGreenModel", "passOf", "(II)I"⟩, 47) := ⟨⟨by decide +kernel, by decide +kernel⟩, List.mem_of_getElem? (i := 1072) (by decide +kernel), List.mem_of_getElem? (i := 1463) (by decide +kernel), List.mem_of_getElem? (i := 1464) (by decide +kernel)⟩
theorem lw_p76 : lw_okq (⟨"WaistcoatGreenModel", "isTaking", "(II)Z"⟩, 47) := ⟨⟨by decide +kernel, by decide +kernel⟩, List.mem_of_getElem? (i := 1072) (by decide +kernel), List.mem_of_getElem? (i := 1467) (by decide +kernel), List.mem_of_getElem? (i := 1468) (by decide +kernel)⟩
theorem lw_p77 : lw_okq (⟨"WaistcoatGreenModel", "coldAt", "(II)I"⟩, 47) := ⟨⟨by decide +kernel, by decide +kernel⟩, List.mem_of_getElem? (i := 1072) (by decide +kernel), List.mem_of_getElem? (i := 1471) (by decide +kernel), List.mem_of_getElem? (i := 1472) (by decide +kernel)⟩
theorem lw_p78 : lw_okq (⟨"WaistcoatGreenModel", "nextCold", "(IIIZ)I"⟩, 47) := ⟨⟨by decide +kernel, by decide +kernel⟩, List.mem_of_getElem? (i := 1072) (by decide +kernel), List.mem_of_getElem? (i := 1475) (by decide +kernel), List.mem_of_getElem? (i := 1476) (by decide +kernel)⟩
theorem lw_p79 : lw_okq (⟨"WaistcoatGreenModel", "frostAt", "(I)I"⟩, 47) := ⟨⟨by decide +kernel, by decide +kernel⟩, List.mem_of_getElem? (i := 1072) (by decide +kernel), List.mem_of_getElem? (i := 1479) (by decide +kernel), List.mem_of_getElem? (i := 1480) (by decide +kernel)⟩
def lw_privs_5 : List (MethodName × Nat) := [(⟨"WaistcoatGreenModel", "lays", "()V"⟩, 47), (⟨"WaistcoatGreenModel", "joins", "(II)V"⟩, 47), (⟨"WaistcoatGreenModel", "reachOf", "(I)I"⟩, 47), (⟨"WaistcoatGreenModel", "isGreen", "()Z"⟩, 47), (⟨"WaistcoatGreenModel", "coverOf", "()I"⟩, 47), (⟨"WaistcoatGreenModel", "isMorning", "(J)Z"⟩, 47), (⟨"WaistcoatGreenModel", "mornings", "()I"⟩, 47), (⟨"WaistcoatGreenModel", "laysNow", "()V"⟩, 47), (⟨"WaistcoatGreenModel", "runs", "()V"⟩, 47), (⟨"WaistcoatGreenModel", "sung", "(III)I"⟩, 47), (⟨"WaistcoatGreenModel", "givenAt", "(I)I"⟩, 47), (⟨"WaistcoatGreenModel", "passOf", "(II)I"⟩, 47), (⟨"WaistcoatGreenModel", "isTaking", "(II)Z"⟩, 47), (⟨"WaistcoatGreenModel", "coldAt", "(II)I"⟩, 47), (⟨"WaistcoatGreenModel", "nextCold", "(IIIZ)I"⟩, 47), (⟨"WaistcoatGreenModel", "frostAt", "(I)I"⟩, 47)]
theorem lw_r5 : ∀ q ∈ lw_privs_5, lw_okq q := List.forall_mem_cons.mpr ⟨lw_p64, List.forall_mem_cons.mpr ⟨lw_p65, List.forall_mem_cons.mpr ⟨lw_p66, List.forall_mem_cons.mpr ⟨lw_p67, List.forall_mem_cons.mpr ⟨lw_p68, List.forall_mem_cons.mpr ⟨lw_p69, List.forall_mem_cons.mpr ⟨lw_p70, List.forall_mem_cons.mpr ⟨lw_p71, List.forall_mem_cons.mpr ⟨lw_p72, List.forall_mem_cons.mpr ⟨lw_p73, List.forall_mem_cons.mpr ⟨lw_p74, List.forall_mem_cons.mpr ⟨lw_p75, List.forall_mem_cons.mpr ⟨lw_p76, List.forall_mem_cons.mpr ⟨lw_p77, List.forall_mem_cons.mpr ⟨lw_p78, List.forall_mem_cons.mpr ⟨lw_p79, fun _ h => absurd h List.not_mem_nil⟩⟩⟩⟩⟩⟩⟩⟩⟩⟩⟩⟩⟩⟩⟩⟩
theorem lw_p80 : lw_okq (⟨"WaistcoatGreenModel", "isThen", "(II)Z"⟩, 47) := ⟨⟨by decide +kernel, by decide +kernel⟩, List.mem_of_getElem? (i := 1072) (by decide +kernel), List.mem_of_getElem? (i := 1490) (by decide +kernel), List.mem_of_getElem? (i := 1491) (by decide +kernel)⟩
theorem lw_p81 : lw_okq (⟨"WaistcoatGreenModel", "oneAt", "(II)I"⟩, 47) := ⟨⟨by decide +kernel, by decide +kernel⟩, List.mem_of_getElem? (i := 1072) (by decide +kernel), List.mem_of_getElem? (i := 1502) (by decide +kernel), List.mem_of_getElem? (i := 1503) (by decide +kernel)⟩
theorem lw_p82 : lw_okq (⟨"WaistcoatGreenModel", "allAt", "(I)I"⟩, 47) := ⟨⟨by decide +kernel, by decide +kernel⟩, List.mem_of_getElem? (i := 1072) (by decide +kernel), List.mem_of_getElem? (i := 1514) (by decide +kernel), List.mem_of_getElem? (i := 1515) (by decide +kernel)⟩
theorem lw_p83 : lw_okq (⟨"WaistcoatGreenModel", "isAhead", "(I)Z"⟩, 47) := ⟨⟨by decide +kernel, by decide +kernel⟩, List.mem_of_getElem? (i := 1072) (by decide +kernel), List.mem_of_getElem? (i := 1522) (by decide +kernel), List.mem_of_getElem? (i := 1523) (by decide +kernel)⟩
theorem lw_p84 : lw_okq (⟨"WaistcoatGreenModel", "wornBy", "(I)I"⟩, 47) := ⟨⟨by decide +kernel, by decide +kernel⟩, List.mem_of_getElem? (i := 1072) (by decide +kernel), List.mem_of_getElem? (i := 1530) (by decide +kernel), List.mem_of_getElem? (i := 1531) (by decide +kernel)⟩
theorem lw_p85 : lw_okq (⟨"WaistcoatGreenModel", "getsAt", "(I)I"⟩, 47) := ⟨⟨by decide +kernel, by decide +kernel⟩, List.mem_of_getElem? (i := 1072) (by decide +kernel), List.mem_of_getElem? (i := 1538) (by decide +kernel), List.mem_of_getElem? (i := 1539) (by decide +kernel)⟩
theorem lw_p86 : lw_okq (⟨"WaistcoatGreenModel", "sufferOf", "(I)I"⟩, 47) := ⟨⟨by decide +kernel, by decide +kernel⟩, List.mem_of_getElem? (i := 1072) (by decide +kernel), List.mem_of_getElem? (i := 1566) (by decide +kernel), List.mem_of_getElem? (i := 1567) (by decide +kernel)⟩
theorem lw_p87 : lw_okq (⟨"WaistcoatGreenModel", "sumNow", "()I"⟩, 47) := ⟨⟨by decide +kernel, by decide +kernel⟩, List.mem_of_getElem? (i := 1072) (by decide +kernel), List.mem_of_getElem? (i := 1574) (by decide +kernel), List.mem_of_getElem? (i := 1575) (by decide +kernel)⟩
theorem lw_p88 : lw_okq (⟨"WaistcoatGreenModel", "bluest", "(I)I"⟩, 47) := ⟨⟨by decide +kernel, by decide +kernel⟩, List.mem_of_getElem? (i := 1072) (by decide +kernel), List.mem_of_getElem? (i := 1591) (by decide +kernel), List.mem_of_getElem? (i := 1592) (by decide +kernel)⟩
theorem lw_p89 : lw_okq (⟨"WaistcoatGreenModel", "laysLie", "(I)V"⟩, 47) := ⟨⟨by decide +kernel, by decide +kernel⟩, List.mem_of_getElem? (i := 1072) (by decide +kernel), List.mem_of_getElem? (i := 1640) (by decide +kernel), List.mem_of_getElem? (i := 1641) (by decide +kernel)⟩
theorem lw_p90 : lw_okq (⟨"WaistcoatGreenModel", "gainOf", "(I)I"⟩, 47) := ⟨⟨by decide +kernel, by decide +kernel⟩, List.mem_of_getElem? (i := 1072) (by decide +kernel), List.mem_of_getElem? (i := 1648) (by decide +kernel), List.mem_of_getElem? (i := 1649) (by decide +kernel)⟩
theorem lw_p91 : lw_okq (⟨"WaistcoatGreenModel", "isPlan", "(I)Z"⟩, 47) := ⟨⟨by decide +kernel, by decide +kernel⟩, List.mem_of_getElem? (i := 1072) (by decide +kernel), List.mem_of_getElem? (i := 1668) (by decide +kernel), List.mem_of_getElem? (i := 1669) (by decide +kernel)⟩
theorem lw_p92 : lw_okq (⟨"WaistcoatGreenModel", "laysPlan", "(I)V"⟩, 47) := ⟨⟨by decide +kernel, by decide +kernel⟩, List.mem_of_getElem? (i := 1072) (by decide +kernel), List.mem_of_getElem? (i := 1672) (by decide +kernel), List.mem_of_getElem? (i := 1673) (by decide +kernel)⟩
theorem lw_p93 : lw_okq (⟨"WaistcoatGreenModel", "planFrom", "(III)V"⟩, 47) := ⟨⟨by decide +kernel, by decide +kernel⟩, List.mem_of_getElem? (i := 1072) (by decide +kernel), List.mem_of_getElem? (i := 1676) (by decide +kernel), List.mem_of_getElem? (i := 1677) (by decide +kernel)⟩
theorem lw_p94 : lw_okq (⟨"WaistcoatGreenModel", "whyNot", "(IZ)I"⟩, 47) := ⟨⟨by decide +kernel, by decide +kernel⟩, List.mem_of_getElem? (i := 1072) (by decide +kernel), List.mem_of_getElem? (i := 1692) (by decide +kernel), List.mem_of_getElem? (i := 1693) (by decide +kernel)⟩
theorem lw_p95 : lw_okq (⟨"WaistcoatGreenModel", "laysSeen", "(II)V"⟩, 47) := ⟨⟨by decide +kernel, by decide +kernel⟩, List.mem_of_getElem? (i := 1072) (by decide +kernel), List.mem_of_getElem? (i := 1696) (by decide +kernel), List.mem_of_getElem? (i := 1697) (by decide +kernel)⟩
def lw_privs_6 : List (MethodName × Nat) := [(⟨"WaistcoatGreenModel", "isThen", "(II)Z"⟩, 47), (⟨"WaistcoatGreenModel", "oneAt", "(II)I"⟩, 47), (⟨"WaistcoatGreenModel", "allAt", "(I)I"⟩, 47), (⟨"WaistcoatGreenModel", "isAhead", "(I)Z"⟩, 47), (⟨"WaistcoatGreenModel", "wornBy", "(I)I"⟩, 47), (⟨"WaistcoatGreenModel", "getsAt", "(I)I"⟩, 47), (⟨"WaistcoatGreenModel", "sufferOf", "(I)I"⟩, 47), (⟨"WaistcoatGreenModel", "sumNow", "()I"⟩, 47), (⟨"WaistcoatGreenModel", "bluest", "(I)I"⟩, 47), (⟨"WaistcoatGreenModel", "laysLie", "(I)V"⟩, 47), (⟨"WaistcoatGreenModel", "gainOf", "(I)I"⟩, 47), (⟨"WaistcoatGreenModel", "isPlan", "(I)Z"⟩, 47), (⟨"WaistcoatGreenModel", "laysPlan", "(I)V"⟩, 47), (⟨"WaistcoatGreenModel", "planFrom", "(III)V"⟩, 47), (⟨"WaistcoatGreenModel", "whyNot", "(IZ)I"⟩, 47), (⟨"WaistcoatGreenModel", "laysSeen", "(II)V"⟩, 47)]
theorem lw_r6 : ∀ q ∈ lw_privs_6, lw_okq q := List.forall_mem_cons.mpr ⟨lw_p80, List.forall_mem_cons.mpr ⟨lw_p81, List.forall_mem_cons.mpr ⟨lw_p82, List.forall_mem_cons.mpr ⟨lw_p83, List.forall_mem_cons.mpr ⟨lw_p84, List.forall_mem_cons.mpr ⟨lw_p85, List.forall_mem_cons.mpr ⟨lw_p86, List.forall_mem_cons.mpr ⟨lw_p87, List.forall_mem_cons.mpr ⟨lw_p88, List.forall_mem_cons.mpr ⟨lw_p89, List.forall_mem_cons.mpr ⟨lw_p90, List.forall_mem_cons.mpr ⟨lw_p91, List.forall_mem_cons.mpr ⟨lw_p92, List.forall_mem_cons.mpr ⟨lw_p93, List.forall_mem_cons.mpr ⟨lw_p94, List.forall_mem_cons.mpr ⟨lw_p95, fun _ h => absurd h List.not_mem_nil⟩⟩⟩⟩⟩⟩⟩⟩⟩⟩⟩⟩⟩⟩⟩⟩
theorem lw_p96 : lw_okq (⟨"WaistcoatGreenModel", "isSo", "(I)Z"⟩, 47) := ⟨⟨by decide +kernel, by decide +kernel⟩, List.mem_of_getElem? (i := 1072) (by decide +kernel), List.mem_of_getElem? (i := 1700) (by decide +kernel), List.mem_of_getElem? (i := 1701) (by decide +kernel)⟩
theorem lw_p97 : lw_okq (⟨"WaistcoatGreenModel", "sumBy", "(I)I"⟩, 47) := ⟨⟨by decide +kernel, by decide +kernel⟩, List.mem_of_getElem? (i := 1072) (by decide +kernel), List.mem_of_getElem? (i := 1724) (by decide +kernel), List.mem_of_getElem? (i := 1725) (by decide +kernel)⟩
theorem lw_p98 : lw_okq (⟨"WaistcoatGreenModel", "worthOf", "(I)I"⟩, 47) := ⟨⟨by decide +kernel, by decide +kernel⟩, List.mem_of_getElem? (i := 1072) (by decide +kernel), List.mem_of_getElem? (i := 1740) (by decide +kernel), List.mem_of_getElem? (i := 1741) (by decide +kernel)⟩
theorem lw_p99 : lw_okq (⟨"WaistcoatGreenModel", "areTwo", "(II)Z"⟩, 47) := ⟨⟨by decide +kernel, by decide +kernel⟩, List.mem_of_getElem? (i := 1072) (by decide +kernel), List.mem_of_getElem? (i := 1762) (by decide +kernel), List.mem_of_getElem? (i := 1763) (by decide +kernel)⟩
theorem lw_p100 : lw_okq (⟨"WaistcoatGreenModel", "winsBy", "(IIIII)I"⟩, 47) := ⟨⟨by decide +kernel, by decide +kernel⟩, List.mem_of_getElem? (i := 1072) (by decide +kernel), List.mem_of_getElem? (i := 1766) (by decide +kernel), List.mem_of_getElem? (i := 1767) (by decide +kernel)⟩
theorem lw_p101 : lw_okq (⟨"WaistcoatGreenModel", "isSoon", "(I)Z"⟩, 47) := ⟨⟨by decide +kernel, by decide +kernel⟩, List.mem_of_getElem? (i := 1072) (by decide +kernel), List.mem_of_getElem? (i := 1778) (by decide +kernel), List.mem_of_getElem? (i := 1779) (by decide +kernel)⟩
theorem lw_p102 : lw_okq (⟨"WaistcoatGreenModel", "weightOf", "(II)J"⟩, 47) := ⟨⟨by decide +kernel, by decide +kernel⟩, List.mem_of_getElem? (i := 1072) (by decide +kernel), List.mem_of_getElem? (i := 1782) (by decide +kernel), List.mem_of_getElem? (i := 1783) (by decide +kernel)⟩
theorem lw_p103 : lw_okq (⟨"WaistcoatGreenModel", "draws", "(J)V"⟩, 47) := ⟨⟨by decide +kernel, by decide +kernel⟩, List.mem_of_getElem? (i := 1072) (by decide +kernel), List.mem_of_getElem? (i := 1803) (by decide +kernel), List.mem_of_getElem? (i := 1804) (by decide +kernel)⟩
theorem lw_p104 : lw_okq (⟨"WaistcoatGreenModel", "does", "(III)V"⟩, 47) := ⟨⟨by decide +kernel, by decide +kernel⟩, List.mem_of_getElem? (i := 1072) (by decide +kernel), List.mem_of_getElem? (i := 1820) (by decide +kernel), List.mem_of_getElem? (i := 1821) (by decide +kernel)⟩
def lw_privs_7 : List (MethodName × Nat) := [(⟨"WaistcoatGreenModel", "isSo", "(I)Z"⟩, 47), (⟨"WaistcoatGreenModel", "sumBy", "(I)I"⟩, 47), (⟨"WaistcoatGreenModel", "worthOf", "(I)I"⟩, 47), (⟨"WaistcoatGreenModel", "areTwo", "(II)Z"⟩, 47), (⟨"WaistcoatGreenModel", "winsBy", "(IIIII)I"⟩, 47), (⟨"WaistcoatGreenModel", "isSoon", "(I)Z"⟩, 47), (⟨"WaistcoatGreenModel", "weightOf", "(II)J"⟩, 47), (⟨"WaistcoatGreenModel", "draws", "(J)V"⟩, 47), (⟨"WaistcoatGreenModel", "does", "(III)V"⟩, 47)]
theorem lw_r7 : ∀ q ∈ lw_privs_7, lw_okq q := List.forall_mem_cons.mpr ⟨lw_p96, List.forall_mem_cons.mpr ⟨lw_p97, List.forall_mem_cons.mpr ⟨lw_p98, List.forall_mem_cons.mpr ⟨lw_p99, List.forall_mem_cons.mpr ⟨lw_p100, List.forall_mem_cons.mpr ⟨lw_p101, List.forall_mem_cons.mpr ⟨lw_p102, List.forall_mem_cons.mpr ⟨lw_p103, List.forall_mem_cons.mpr ⟨lw_p104, fun _ h => absurd h List.not_mem_nil⟩⟩⟩⟩⟩⟩⟩⟩⟩
def lw_privs : List (MethodName × Nat) := lw_privs_1 ++ (lw_privs_2 ++ (lw_privs_3 ++ (lw_privs_4 ++ (lw_privs_5 ++ (lw_privs_6 ++ (lw_privs_7))))))
def lw_tbl : List Cond := k2_sels lw_privs ++ tables_1
theorem lw_privs_ok : ∀ q ∈ lw_privs, lw_okq q := by
  show ∀ q ∈ lw_privs_1 ++ (lw_privs_2 ++ (lw_privs_3 ++ (lw_privs_4 ++ (lw_privs_5 ++ (lw_privs_6 ++ (lw_privs_7)))))), lw_okq q
  exact List.forall_mem_append.mpr ⟨lw_r1, List.forall_mem_append.mpr ⟨lw_r2, List.forall_mem_append.mpr ⟨lw_r3, List.forall_mem_append.mpr ⟨lw_r4, List.forall_mem_append.mpr ⟨lw_r5, List.forall_mem_append.mpr ⟨lw_r6, lw_r7⟩⟩⟩⟩⟩⟩
end
section
def RX0 : String := "WaistcoatGreen$Green"
def TX0 : u_T := fun k => match k with
  | 0 => ("WaistcoatGreen$Green", "lines", "I", false)
  | 1 => ("WaistcoatGreen$Green", "mornings", "I", false)
  | 2 => ("WaistcoatGreen$Green", "law", "I", false)
  | 3 => ("WaistcoatGreen$Green", "odds", "I", false)
  | 4 => ("WaistcoatGreen$Green", "warm", "I", false)
  | 5 => ("WaistcoatGreen$Green", "chill", "I", false)
  | 6 => ("WaistcoatGreen$Green", "villagers", "I", false)
  | 7 => ("WaistcoatGreen$Green", "hands", "I", false)
  | 8 => ("WaistcoatGreen$Green", "frosts", "I", false)
  | 9 => ("WaistcoatGreen$Green", "wearer", "I", false)
  | 10 => ("WaistcoatGreen$Green", "acts", "I", false)
  | 11 => ("WaistcoatGreen$Green", "told", "[I", true)
  | 12 => ("WaistcoatGreen$Green", "shy", "[I", true)
  | 13 => ("WaistcoatGreen$Green", "joined", "[I", true)
  | 14 => ("WaistcoatGreen$Green", "frostOn", "[I", true)
  | 15 => ("WaistcoatGreen$Green", "actKind", "[I", true)
  | 16 => ("WaistcoatGreen$Green", "actVillager", "[I", true)
  | _ => ("WaistcoatGreen$Green", "actMorning", "[I", true)
def tyX0 : Nat → FieldType := fun k => match k with
  | 0 => .int
  | 1 => .int
  | 2 => .int
  | 3 => .int
  | 4 => .int
  | 5 => .int
  | 6 => .int
  | 7 => .int
  | 8 => .int
  | 9 => .int
  | 10 => .int
  | 11 => .array .int
  | 12 => .array .int
  | 13 => .array .int
  | 14 => .array .int
  | 15 => .array .int
  | 16 => .array .int
  | _ => .array .int
abbrev wsX00 : List Cond := u_ws RX0 TX0 18
theorem nmX0 : ∀ a, a < 18 → ∀ b, b < 18 → a ≠ b → (TX0 a).2.1 ≠ (TX0 b).2.1 := by decide +kernel
theorem tyX0_ok : ∀ k, k < 18 → parseFieldDescriptor (TX0 k).2.2.1 = some (tyX0 k) := by decide +kernel
abbrev cX0_init : ByteArray := prog_2_method_1_code
def yX0_init : MethodName := ⟨RX0, "<init>", "()V"⟩
abbrev cX0_isTold : ByteArray := prog_2_method_2_code
def yX0_isTold : MethodName := ⟨RX0, "isTold", "()Z"⟩
abbrev cX0_hasVillager : ByteArray := prog_2_method_3_code
def yX0_hasVillager : MethodName := ⟨RX0, "hasVillager", "(I)Z"⟩
abbrev cX0_hasMorning : ByteArray := prog_2_method_4_code
def yX0_hasMorning : MethodName := ⟨RX0, "hasMorning", "(I)Z"⟩
abbrev cX0_hasMorningBehind : ByteArray := prog_2_method_5_code
def yX0_hasMorningBehind : MethodName := ⟨RX0, "hasMorningBehind", "(I)Z"⟩
abbrev cX0_everybody : ByteArray := prog_2_method_6_code
def yX0_everybody : MethodName := ⟨RX0, "everybody", "()I"⟩
abbrev cX0_areJoined : ByteArray := prog_2_method_7_code
def yX0_areJoined : MethodName := ⟨RX0, "areJoined", "(II)Z"⟩
abbrev cX0_chillOn : ByteArray := prog_2_method_8_code
def yX0_chillOn : MethodName := ⟨RX0, "chillOn", "(I)I"⟩
abbrev cX0_addVillager : ByteArray := prog_2_method_9_code
def yX0_addVillager : MethodName := ⟨RX0, "addVillager", "(II)V"⟩
abbrev cX0_addHand : ByteArray := prog_2_method_10_code
def yX0_addHand : MethodName := ⟨RX0, "addHand", "(II)V"⟩
abbrev cX0_addFrost : ByteArray := prog_2_method_11_code
def yX0_addFrost : MethodName := ⟨RX0, "addFrost", "(II)V"⟩
abbrev cX0_act : ByteArray := prog_2_method_12_code
def yX0_act : MethodName := ⟨RX0, "act", "(III)V"⟩
abbrev cX0_clear : ByteArray := prog_2_method_13_code
def yX0_clear : MethodName := ⟨RX0, "clear", "()V"⟩
abbrev cX0_copy : ByteArray := prog_2_method_14_code
def yX0_copy : MethodName := ⟨RX0, "copy", "(LWaistcoatGreen$Green;)V"⟩
def RX1 : String := "WaistcoatGreen$Guess"
def TX1 : u_T := fun k => match k with
  | 0 => ("WaistcoatGreen$Guess", "tally", "[I", true)
  | 1 => ("WaistcoatGreen$Guess", "count", "I", false)
  | 2 => ("WaistcoatGreen$Guess", "least", "I", false)
  | _ => ("WaistcoatGreen$Guess", "greatest", "I", false)
def tyX1 : Nat → FieldType := fun k => match k with
  | 0 => .array .int
  | 1 => .int
  | 2 => .int
  | _ => .int
abbrev wsX10 : List Cond := u_ws RX1 TX1 4
theorem nmX1 : ∀ a, a < 4 → ∀ b, b < 4 → a ≠ b → (TX1 a).2.1 ≠ (TX1 b).2.1 := by decide +kernel
theorem tyX1_ok : ∀ k, k < 4 → parseFieldDescriptor (TX1 k).2.2.1 = some (tyX1 k) := by decide +kernel
abbrev cX1_init : ByteArray := prog_3_method_1_code
def yX1_init : MethodName := ⟨RX1, "<init>", "()V"⟩
abbrev cX1_clear : ByteArray := prog_3_method_2_code
def yX1_clear : MethodName := ⟨RX1, "clear", "()V"⟩
abbrev cX1_at : ByteArray := prog_3_method_3_code
def yX1_at : MethodName := ⟨RX1, "at", "(II)I"⟩
abbrev cX1_add : ByteArray := prog_3_method_4_code
def yX1_add : MethodName := ⟨RX1, "add", "(ILWaistcoatGreen$Winter;I)V"⟩
abbrev cX1_bestMorning : ByteArray := prog_3_method_5_code
def yX1_bestMorning : MethodName := ⟨RX1, "bestMorning", "(I)I"⟩
abbrev cX1_leftBy : ByteArray := prog_3_method_6_code
def yX1_leftBy : MethodName := ⟨RX1, "leftBy", "(I)I"⟩
def RX2 : String := "WaistcoatGreen$Planner"
def TX2 : u_T := fun k => match k with
  | 0 => ("WaistcoatGreen$Planner", "winter", "LWaistcoatGreen$Winter;", true)
  | 1 => ("WaistcoatGreen$Planner", "row", "[I", true)
  | 2 => ("WaistcoatGreen$Planner", "last", "I", false)
  | 3 => ("WaistcoatGreen$Planner", "least", "I", false)
  | _ => ("WaistcoatGreen$Planner", "rows", "I", false)
def tyX2 : Nat → FieldType := fun k => match k with
  | 0 => .object "WaistcoatGreen$Winter"
  | 1 => .array .int
  | 2 => .int
  | 3 => .int
  | _ => .int
abbrev wsX20 : List Cond := u_ws RX2 TX2 5
theorem nmX2 : ∀ a, a < 5 → ∀ b, b < 5 → a ≠ b → (TX2 a).2.1 ≠ (TX2 b).2.1 := by decide +kernel
theorem tyX2_ok : ∀ k, k < 5 → parseFieldDescriptor (TX2 k).2.2.1 = some (tyX2 k) := by decide +kernel
abbrev cX2_init : ByteArray := prog_4_method_1_code
def yX2_init : MethodName := ⟨RX2, "<init>", "(LWaistcoatGreen$Winter;)V"⟩
abbrev cX2_search : ByteArray := prog_4_method_2_code
def yX2_search : MethodName := ⟨RX2, "search", "(I)V"⟩
abbrev cX2_goOn : ByteArray := prog_4_method_3_code
def yX2_goOn : MethodName := ⟨RX2, "goOn", "(LWaistcoatGreen$Planner;II)V"⟩
abbrev cX2_canGo : ByteArray := prog_4_method_4_code
def yX2_canGo : MethodName := ⟨RX2, "canGo", "(II)Z"⟩
abbrev cX2_weigh : ByteArray := prog_4_method_5_code
def yX2_weigh : MethodName := ⟨RX2, "weigh", "(I)V"⟩
def RX3 : String := "WaistcoatGreen$Reader"
def TX3 : u_T := fun k => match k with
  | 0 => ("WaistcoatGreen$Reader", "tape", "[B", true)
  | 1 => ("WaistcoatGreen$Reader", "length", "I", false)
  | 2 => ("WaistcoatGreen$Reader", "fault", "I", false)
  | 3 => ("WaistcoatGreen$Reader", "faultPlace", "I", false)
  | 4 => ("WaistcoatGreen$Reader", "kind", "I", false)
  | 5 => ("WaistcoatGreen$Reader", "place", "I", false)
  | 6 => ("WaistcoatGreen$Reader", "behind", "I", false)
  | _ => ("WaistcoatGreen$Reader", "value", "I", false)
def tyX3 : Nat → FieldType := fun k => match k with
  | 0 => .array .byte
  | 1 => .int
  | 2 => .int
  | 3 => .int
  | 4 => .int
  | 5 => .int
  | 6 => .int
  | _ => .int
abbrev wsX30 : List Cond := u_ws RX3 TX3 8
theorem nmX3 : ∀ a, a < 8 → ∀ b, b < 8 → a ≠ b → (TX3 a).2.1 ≠ (TX3 b).2.1 := by decide +kernel
theorem tyX3_ok : ∀ k, k < 8 → parseFieldDescriptor (TX3 k).2.2.1 = some (tyX3 k) := by decide +kernel
abbrev cX3_init : ByteArray := prog_5_method_1_code
def yX3_init : MethodName := ⟨RX3, "<init>", "()V"⟩
abbrev cX3_put : ByteArray := prog_5_method_2_code
def yX3_put : MethodName := ⟨RX3, "put", "(I)V"⟩
abbrev cX3_read : ByteArray := prog_5_method_3_code
def yX3_read : MethodName := ⟨RX3, "read", "(LWaistcoatGreen$Green;)Z"⟩
abbrev cX3_closeLine : ByteArray := prog_5_method_4_code
def yX3_closeLine : MethodName := ⟨RX3, "closeLine", "(LWaistcoatGreen$Green;)V"⟩
abbrev cX3_readGreen : ByteArray := prog_5_method_5_code
def yX3_readGreen : MethodName := ⟨RX3, "readGreen", "(LWaistcoatGreen$Green;)V"⟩
abbrev cX3_readVillager : ByteArray := prog_5_method_6_code
def yX3_readVillager : MethodName := ⟨RX3, "readVillager", "(LWaistcoatGreen$Green;)V"⟩
abbrev cX3_readWears : ByteArray := prog_5_method_7_code
def yX3_readWears : MethodName := ⟨RX3, "readWears", "(LWaistcoatGreen$Green;)V"⟩
abbrev cX3_readHand : ByteArray := prog_5_method_8_code
def yX3_readHand : MethodName := ⟨RX3, "readHand", "(LWaistcoatGreen$Green;)V"⟩
abbrev cX3_readFrost : ByteArray := prog_5_method_9_code
def yX3_readFrost : MethodName := ⟨RX3, "readFrost", "(LWaistcoatGreen$Green;)V"⟩
abbrev cX3_readNamed : ByteArray := prog_5_method_10_code
def yX3_readNamed : MethodName := ⟨RX3, "readNamed", "(Ljava/lang/String;II)I"⟩
abbrev cX3_readNumber : ByteArray := prog_5_method_11_code
def yX3_readNumber : MethodName := ⟨RX3, "readNumber", "(III)I"⟩
abbrev cX3_pass : ByteArray := prog_5_method_12_code
def yX3_pass : MethodName := ⟨RX3, "pass", "(Ljava/lang/String;)V"⟩
abbrev cX3_blame : ByteArray := prog_5_method_13_code
def yX3_blame : MethodName := ⟨RX3, "blame", "(I)V"⟩
abbrev cX3_isAt : ByteArray := prog_5_method_14_code
def yX3_isAt : MethodName := ⟨RX3, "isAt", "(Ljava/lang/String;)Z"⟩
abbrev cX3_next : ByteArray := prog_5_method_15_code
def yX3_next : MethodName := ⟨RX3, "next", "()V"⟩
abbrev cX3_kindAt : ByteArray := prog_5_method_16_code
def yX3_kindAt : MethodName := ⟨RX3, "kindAt", "(I)I"⟩
def RX4 : String := "WaistcoatGreen$Slot"
def TX4 : u_T := fun k => match k with
  | 0 => ("WaistcoatGreen$Slot", "numbers", "[J", true)
  | 1 => ("WaistcoatGreen$Slot", "hasRow", "Z", false)
  | 2 => ("WaistcoatGreen$Slot", "width", "I", false)
  | _ => ("WaistcoatGreen$Slot", "size", "I", false)
def tyX4 : Nat → FieldType := fun k => match k with
  | 0 => .array .long
  | 1 => .boolean
  | 2 => .int
  | _ => .int
abbrev wsX40 : List Cond := u_ws RX4 TX4 4
theorem nmX4 : ∀ a, a < 4 → ∀ b, b < 4 → a ≠ b → (TX4 a).2.1 ≠ (TX4 b).2.1 := by decide +kernel
theorem tyX4_ok : ∀ k, k < 4 → parseFieldDescriptor (TX4 k).2.2.1 = some (tyX4 k) := by decide +kernel
abbrev cX4_init : ByteArray := prog_6_method_1_code
def yX4_init : MethodName := ⟨RX4, "<init>", "()V"⟩
abbrev cX4_renew : ByteArray := prog_6_method_2_code
def yX4_renew : MethodName := ⟨RX4, "renew", "(II)V"⟩
abbrev cX4_cut : ByteArray := prog_6_method_3_code
def yX4_cut : MethodName := ⟨RX4, "cut", "(J)J"⟩
abbrev cX4_holds : ByteArray := prog_6_method_4_code
def yX4_holds : MethodName := ⟨RX4, "holds", "(II)Z"⟩
abbrev cX4_canBeSeen : ByteArray := prog_6_method_5_code
def yX4_canBeSeen : MethodName := ⟨RX4, "canBeSeen", "(LWaistcoatGreen$Green;)Z"⟩
def RX5 : String := "WaistcoatGreen$Winter"
def TX5 : u_T := fun k => match k with
  | 0 => ("WaistcoatGreen$Winter", "green", "LWaistcoatGreen$Green;", true)
  | 1 => ("WaistcoatGreen$Winter", "law", "I", false)
  | 2 => ("WaistcoatGreen$Winter", "first", "I", false)
  | 3 => ("WaistcoatGreen$Winter", "hard", "I", false)
  | 4 => ("WaistcoatGreen$Winter", "told", "[I", true)
  | 5 => ("WaistcoatGreen$Winter", "shy", "[I", true)
  | 6 => ("WaistcoatGreen$Winter", "joined", "[I", true)
  | 7 => ("WaistcoatGreen$Winter", "given", "[I", true)
  | 8 => ("WaistcoatGreen$Winter", "songs", "[I", true)
  | 9 => ("WaistcoatGreen$Winter", "holder", "[I", true)
  | 10 => ("WaistcoatGreen$Winter", "passed", "[I", true)
  | _ => ("WaistcoatGreen$Winter", "cold", "[I", true)
def tyX5 : Nat → FieldType := fun k => match k with
  | 0 => .object "WaistcoatGreen$Green"
  | 1 => .int
  | 2 => .int
  | 3 => .int
  | 4 => .array .int
  | 5 => .array .int
  | 6 => .array .int
  | 7 => .array .int
  | 8 => .array .int
  | 9 => .array .int
  | 10 => .array .int
  | _ => .array .int
abbrev wsX50 : List Cond := u_ws RX5 TX5 12
theorem nmX5 : ∀ a, a < 12 → ∀ b, b < 12 → a ≠ b → (TX5 a).2.1 ≠ (TX5 b).2.1 := by decide +kernel
theorem tyX5_ok : ∀ k, k < 12 → parseFieldDescriptor (TX5 k).2.2.1 = some (tyX5 k) := by decide +kernel
abbrev cX5_init : ByteArray := prog_7_method_1_code
def yX5_init : MethodName := ⟨RX5, "<init>", "(LWaistcoatGreen$Green;)V"⟩
abbrev cX5_at : ByteArray := prog_7_method_2_code
def yX5_at : MethodName := ⟨RX5, "at", "(II)I"⟩
abbrev cX5_tell : ByteArray := prog_7_method_3_code
def yX5_tell : MethodName := ⟨RX5, "tell", "()V"⟩
abbrev cX5_leaveTo : ByteArray := prog_7_method_4_code
def yX5_leaveTo : MethodName := ⟨RX5, "leaveTo", "(I)V"⟩
abbrev cX5_giveTo : ByteArray := prog_7_method_5_code
def yX5_giveTo : MethodName := ⟨RX5, "giveTo", "(I)V"⟩
abbrev cX5_countSongs : ByteArray := prog_7_method_6_code
def yX5_countSongs : MethodName := ⟨RX5, "countSongs", "()V"⟩
abbrev cX5_play : ByteArray := prog_7_method_7_code
def yX5_play : MethodName := ⟨RX5, "play", "(I)V"⟩
abbrev cX5_begin : ByteArray := prog_7_method_8_code
def yX5_begin : MethodName := ⟨RX5, "begin", "()V"⟩
abbrev cX5_freeze : ByteArray := prog_7_method_9_code
def yX5_freeze : MethodName := ⟨RX5, "freeze", "(I)V"⟩
abbrev cX5_passedByLaw : ByteArray := prog_7_method_10_code
def yX5_passedByLaw : MethodName := ⟨RX5, "passedByLaw", "(I)I"⟩
abbrev cX5_isPreferred : ByteArray := prog_7_method_11_code
def yX5_isPreferred : MethodName := ⟨RX5, "isPreferred", "(III)Z"⟩
abbrev cX5_coldOf : ByteArray := prog_7_method_12_code
def yX5_coldOf : MethodName := ⟨RX5, "coldOf", "(II)I"⟩
abbrev cX5_coldOfAll : ByteArray := prog_7_method_13_code
def yX5_coldOfAll : MethodName := ⟨RX5, "coldOfAll", "(I)I"⟩
abbrev cX5_takers : ByteArray := prog_7_method_14_code
def yX5_takers : MethodName := ⟨RX5, "takers", "(I)I"⟩
abbrev cX5_colderThan : ByteArray := prog_7_method_15_code
def yX5_colderThan : MethodName := ⟨RX5, "colderThan", "(II)I"⟩
abbrev cX5_oneHandOn : ByteArray := prog_7_method_16_code
def yX5_oneHandOn : MethodName := ⟨RX5, "oneHandOn", "(I)I"⟩
abbrev cX5_reachedFrom : ByteArray := prog_7_method_17_code
def yX5_reachedFrom : MethodName := ⟨RX5, "reachedFrom", "(I)I"⟩
abbrev cX5_sufferedBy : ByteArray := prog_7_method_18_code
def yX5_sufferedBy : MethodName := ⟨RX5, "sufferedBy", "(I)I"⟩
abbrev cX5_sufferedByAll : ByteArray := prog_7_method_19_code
def yX5_sufferedByAll : MethodName := ⟨RX5, "sufferedByAll", "()I"⟩
abbrev cX5_isEverAsCold : ByteArray := prog_7_method_20_code
def yX5_isEverAsCold : MethodName := ⟨RX5, "isEverAsCold", "(II)Z"⟩
abbrev cX5_everHas : ByteArray := prog_7_method_21_code
def yX5_everHas : MethodName := ⟨RX5, "everHas", "(I)Z"⟩
abbrev cX5_isAsSeen : ByteArray := prog_7_method_22_code
def yX5_isAsSeen : MethodName := ⟨RX5, "isAsSeen", "(LWaistcoatGreen$Slot;)Z"⟩
def RX6 : String := "WaistcoatGreen"
def TX6 : u_T := fun k => match k with
  | 0 => ("WaistcoatGreen", "reader", "LWaistcoatGreen$Reader;", true)
  | 1 => ("WaistcoatGreen", "green", "LWaistcoatGreen$Green;", true)
  | 2 => ("WaistcoatGreen", "draft", "LWaistcoatGreen$Green;", true)
  | 3 => ("WaistcoatGreen", "now", "LWaistcoatGreen$Winter;", true)
  | 4 => ("WaistcoatGreen", "trial", "LWaistcoatGreen$Winter;", true)
  | 5 => ("WaistcoatGreen", "planner", "LWaistcoatGreen$Planner;", true)
  | 6 => ("WaistcoatGreen", "guess", "LWaistcoatGreen$Guess;", true)
  | 7 => ("WaistcoatGreen", "slots", "[LWaistcoatGreen$Slot;", true)
  | 8 => ("WaistcoatGreen", "images", "[LWaistcoatGreen$Green;", true)
  | 9 => ("WaistcoatGreen", "kept", "[Z", true)
  | _ => ("WaistcoatGreen", "worths", "[I", true)
def tyX6 : Nat → FieldType := fun k => match k with
  | 0 => .object "WaistcoatGreen$Reader"
  | 1 => .object "WaistcoatGreen$Green"
  | 2 => .object "WaistcoatGreen$Green"
  | 3 => .object "WaistcoatGreen$Winter"
  | 4 => .object "WaistcoatGreen$Winter"
  | 5 => .object "WaistcoatGreen$Planner"
  | 6 => .object "WaistcoatGreen$Guess"
  | 7 => .array (.object "WaistcoatGreen$Slot")
  | 8 => .array (.object "WaistcoatGreen$Green")
  | 9 => .array .boolean
  | _ => .array .int
abbrev wsX60 : List Cond := u_ws RX6 TX6 11
theorem nmX6 : ∀ a, a < 11 → ∀ b, b < 11 → a ≠ b → (TX6 a).2.1 ≠ (TX6 b).2.1 := by decide +kernel
theorem tyX6_ok : ∀ k, k < 11 → parseFieldDescriptor (TX6 k).2.2.1 = some (tyX6 k) := by decide +kernel
abbrev cX6_init : ByteArray := prog_1_method_1_code
def yX6_init : MethodName := ⟨RX6, "<init>", "()V"⟩
abbrev cX6_feed : ByteArray := prog_1_method_2_code
def yX6_feed : MethodName := ⟨RX6, "feed", "(IIIII)I"⟩
abbrev cX6_end : ByteArray := prog_1_method_3_code
def yX6_end : MethodName := ⟨RX6, "end", "(I)I"⟩
abbrev cX6_green : ByteArray := prog_1_method_4_code
def yX6_green : MethodName := ⟨RX6, "green", "()I"⟩
abbrev cX6_fault : ByteArray := prog_1_method_5_code
def yX6_fault : MethodName := ⟨RX6, "fault", "(I)I"⟩
abbrev cX6_villager : ByteArray := prog_1_method_6_code
def yX6_villager : MethodName := ⟨RX6, "villager", "(II)I"⟩
abbrev cX6_hands : ByteArray := prog_1_method_7_code
def yX6_hands : MethodName := ⟨RX6, "hands", "(I)I"⟩
abbrev cX6_far : ByteArray := prog_1_method_8_code
def yX6_far : MethodName := ⟨RX6, "far", "(II)I"⟩
abbrev cX6_reach : ByteArray := prog_1_method_9_code
def yX6_reach : MethodName := ⟨RX6, "reach", "(I)I"⟩
abbrev cX6_cover : ByteArray := prog_1_method_10_code
def yX6_cover : MethodName := ⟨RX6, "cover", "()I"⟩
abbrev cX6_covers : ByteArray := prog_1_method_11_code
def yX6_covers : MethodName := ⟨RX6, "covers", "()I"⟩
abbrev cX6_has : ByteArray := prog_1_method_12_code
def yX6_has : MethodName := ⟨RX6, "has", "(I)I"⟩
abbrev cX6_cold : ByteArray := prog_1_method_13_code
def yX6_cold : MethodName := ⟨RX6, "cold", "(II)I"⟩
abbrev cX6_takes : ByteArray := prog_1_method_14_code
def yX6_takes : MethodName := ⟨RX6, "takes", "(I)I"⟩
abbrev cX6_coldest : ByteArray := prog_1_method_15_code
def yX6_coldest : MethodName := ⟨RX6, "coldest", "(I)I"⟩
abbrev cX6_all : ByteArray := prog_1_method_16_code
def yX6_all : MethodName := ⟨RX6, "all", "(I)I"⟩
abbrev cX6_passes : ByteArray := prog_1_method_17_code
def yX6_passes : MethodName := ⟨RX6, "passes", "(I)I"⟩
abbrev cX6_worn : ByteArray := prog_1_method_18_code
def yX6_worn : MethodName := ⟨RX6, "worn", "(I)I"⟩
abbrev cX6_gets : ByteArray := prog_1_method_19_code
def yX6_gets : MethodName := ⟨RX6, "gets", "(I)I"⟩
abbrev cX6_keeps : ByteArray := prog_1_method_20_code
def yX6_keeps : MethodName := ⟨RX6, "keeps", "(I)I"⟩
abbrev cX6_pump : ByteArray := prog_1_method_21_code
def yX6_pump : MethodName := ⟨RX6, "pump", "()I"⟩
abbrev cX6_right : ByteArray := prog_1_method_22_code
def yX6_right : MethodName := ⟨RX6, "right", "()I"⟩
abbrev cX6_stops : ByteArray := prog_1_method_23_code
def yX6_stops : MethodName := ⟨RX6, "stops", "()I"⟩
abbrev cX6_round : ByteArray := prog_1_method_24_code
def yX6_round : MethodName := ⟨RX6, "round", "()I"⟩
abbrev cX6_suffers : ByteArray := prog_1_method_25_code
def yX6_suffers : MethodName := ⟨RX6, "suffers", "(I)I"⟩
abbrev cX6_sum : ByteArray := prog_1_method_26_code
def yX6_sum : MethodName := ⟨RX6, "sum", "()I"⟩
abbrev cX6_worst : ByteArray := prog_1_method_27_code
def yX6_worst : MethodName := ⟨RX6, "worst", "()I"⟩
abbrev cX6_freezes : ByteArray := prog_1_method_28_code
def yX6_freezes : MethodName := ⟨RX6, "freezes", "(II)I"⟩
abbrev cX6_blue : ByteArray := prog_1_method_29_code
def yX6_blue : MethodName := ⟨RX6, "blue", "()I"⟩
abbrev cX6_alike : ByteArray := prog_1_method_30_code
def yX6_alike : MethodName := ⟨RX6, "alike", "(I)I"⟩
abbrev cX6_colder : ByteArray := prog_1_method_31_code
def yX6_colder : MethodName := ⟨RX6, "colder", "(II)I"⟩
abbrev cX6_near : ByteArray := prog_1_method_32_code
def yX6_near : MethodName := ⟨RX6, "near", "(I)I"⟩
abbrev cX6_warmest : ByteArray := prog_1_method_33_code
def yX6_warmest : MethodName := ⟨RX6, "warmest", "(I)I"⟩
abbrev cX6_frost : ByteArray := prog_1_method_34_code
def yX6_frost : MethodName := ⟨RX6, "frost", "(I)I"⟩
abbrev cX6_jumps : ByteArray := prog_1_method_35_code
def yX6_jumps : MethodName := ⟨RX6, "jumps", "()I"⟩
abbrev cX6_longest : ByteArray := prog_1_method_36_code
def yX6_longest : MethodName := ⟨RX6, "longest", "()I"⟩
abbrev cX6_fair : ByteArray := prog_1_method_37_code
def yX6_fair : MethodName := ⟨RX6, "fair", "()I"⟩
abbrev cX6_rises : ByteArray := prog_1_method_38_code
def yX6_rises : MethodName := ⟨RX6, "rises", "(I)I"⟩
abbrev cX6_waits : ByteArray := prog_1_method_39_code
def yX6_waits : MethodName := ⟨RX6, "waits", "(I)I"⟩
abbrev cX6_returns : ByteArray := prog_1_method_40_code
def yX6_returns : MethodName := ⟨RX6, "returns", "(I)I"⟩
abbrev cX6_lies : ByteArray := prog_1_method_41_code
def yX6_lies : MethodName := ⟨RX6, "lies", "(I)I"⟩
abbrev cX6_gains : ByteArray := prog_1_method_42_code
def yX6_gains : MethodName := ⟨RX6, "gains", "(I)I"⟩
abbrev cX6_liars : ByteArray := prog_1_method_43_code
def yX6_liars : MethodName := ⟨RX6, "liars", "()I"⟩
abbrev cX6_start : ByteArray := prog_1_method_44_code
def yX6_start : MethodName := ⟨RX6, "start", "()I"⟩
abbrev cX6_join : ByteArray := prog_1_method_45_code
def yX6_join : MethodName := ⟨RX6, "join", "()I"⟩
abbrev cX6_plan : ByteArray := prog_1_method_46_code
def yX6_plan : MethodName := ⟨RX6, "plan", "(I)I"⟩
abbrev cX6_planned : ByteArray := prog_1_method_47_code
def yX6_planned : MethodName := ⟨RX6, "planned", "(II)I"⟩
abbrev cX6_plans : ByteArray := prog_1_method_48_code
def yX6_plans : MethodName := ⟨RX6, "plans", "(I)I"⟩
abbrev cX6_colds : ByteArray := prog_1_method_49_code
def yX6_colds : MethodName := ⟨RX6, "colds", "(II)I"⟩
abbrev cX6_low : ByteArray := prog_1_method_50_code
def yX6_low : MethodName := ⟨RX6, "low", "(II)I"⟩
abbrev cX6_high : ByteArray := prog_1_method_51_code
def yX6_high : MethodName := ⟨RX6, "high", "(II)I"⟩
abbrev cX6_ask : ByteArray := prog_1_method_52_code
def yX6_ask : MethodName := ⟨RX6, "ask", "(II)I"⟩
abbrev cX6_leaves : ByteArray := prog_1_method_53_code
def yX6_leaves : MethodName := ⟨RX6, "leaves", "(II)I"⟩
abbrev cX6_laws : ByteArray := prog_1_method_54_code
def yX6_laws : MethodName := ⟨RX6, "laws", "(I)I"⟩
abbrev cX6_by : ByteArray := prog_1_method_55_code
def yX6_by : MethodName := ⟨RX6, "by", "(I)I"⟩
abbrev cX6_law : ByteArray := prog_1_method_56_code
def yX6_law : MethodName := ⟨RX6, "law", "()I"⟩
abbrev cX6_worth : ByteArray := prog_1_method_57_code
def yX6_worth : MethodName := ⟨RX6, "worth", "(I)I"⟩
abbrev cX6_share : ByteArray := prog_1_method_58_code
def yX6_share : MethodName := ⟨RX6, "share", "(II)I"⟩
abbrev cX6_rests : ByteArray := prog_1_method_59_code
def yX6_rests : MethodName := ⟨RX6, "rests", "(II)I"⟩
abbrev cX6_wins : ByteArray := prog_1_method_60_code
def yX6_wins : MethodName := ⟨RX6, "wins", "(IIII)I"⟩
abbrev cX6_chance : ByteArray := prog_1_method_61_code
def yX6_chance : MethodName := ⟨RX6, "chance", "(III)I"⟩
abbrev cX6_mean : ByteArray := prog_1_method_62_code
def yX6_mean : MethodName := ⟨RX6, "mean", "(II)J"⟩
abbrev cX6_gives : ByteArray := prog_1_method_63_code
def yX6_gives : MethodName := ⟨RX6, "gives", "(II)I"⟩
abbrev cX6_sings : ByteArray := prog_1_method_64_code
def yX6_sings : MethodName := ⟨RX6, "sings", "(II)I"⟩
abbrev cX6_undo : ByteArray := prog_1_method_65_code
def yX6_undo : MethodName := ⟨RX6, "undo", "()I"⟩
abbrev cX6_anew : ByteArray := prog_1_method_66_code
def yX6_anew : MethodName := ⟨RX6, "anew", "()I"⟩
abbrev cX6_drawn : ByteArray := prog_1_method_67_code
def yX6_drawn : MethodName := ⟨RX6, "drawn", "(II)I"⟩
abbrev cX6_luck : ByteArray := prog_1_method_68_code
def yX6_luck : MethodName := ⟨RX6, "luck", "(III)I"⟩
abbrev cX6_rate : ByteArray := prog_1_method_69_code
def yX6_rate : MethodName := ⟨RX6, "rate", "(II)I"⟩
abbrev cX6_count : ByteArray := prog_1_method_70_code
def yX6_count : MethodName := ⟨RX6, "count", "(I)I"⟩
abbrev cX6_image : ByteArray := prog_1_method_71_code
def yX6_image : MethodName := ⟨RX6, "image", "(I)I"⟩
abbrev cX6_back : ByteArray := prog_1_method_72_code
def yX6_back : MethodName := ⟨RX6, "back", "(I)I"⟩
abbrev cX6_row : ByteArray := prog_1_method_73_code
def yX6_row : MethodName := ⟨RX6, "row", "(III)I"⟩
abbrev cX6_write : ByteArray := prog_1_method_74_code
def yX6_write : MethodName := ⟨RX6, "write", "(IIJ)I"⟩
abbrev cX6_paste : ByteArray := prog_1_method_75_code
def yX6_paste : MethodName := ⟨RX6, "paste", "(IIIII)I"⟩
abbrev cX6_settle : ByteArray := prog_1_method_76_code
def yX6_settle : MethodName := ⟨RX6, "settle", "()V"⟩
abbrev cX6_leastCover : ByteArray := prog_1_method_77_code
def yX6_leastCover : MethodName := ⟨RX6, "leastCover", "()I"⟩
abbrev cX6_morningsWith : ByteArray := prog_1_method_78_code
def yX6_morningsWith : MethodName := ⟨RX6, "morningsWith", "(I)I"⟩
abbrev cX6_firstWith : ByteArray := prog_1_method_79_code
def yX6_firstWith : MethodName := ⟨RX6, "firstWith", "(I)I"⟩
abbrev cX6_bestLie : ByteArray := prog_1_method_80_code
def yX6_bestLie : MethodName := ⟨RX6, "bestLie", "(I)I"⟩
abbrev cX6_gainOf : ByteArray := prog_1_method_81_code
def yX6_gainOf : MethodName := ⟨RX6, "gainOf", "(I)I"⟩
abbrev cX6_sumTried : ByteArray := prog_1_method_82_code
def yX6_sumTried : MethodName := ⟨RX6, "sumTried", "()I"⟩
abbrev cX6_sumJoined : ByteArray := prog_1_method_83_code
def yX6_sumJoined : MethodName := ⟨RX6, "sumJoined", "(II)I"⟩
abbrev cX6_sumByLaw : ByteArray := prog_1_method_84_code
def yX6_sumByLaw : MethodName := ⟨RX6, "sumByLaw", "(I)I"⟩
abbrev cX6_canPlan : ByteArray := prog_1_method_85_code
def yX6_canPlan : MethodName := ⟨RX6, "canPlan", "(I)Z"⟩
abbrev cX6_canChance : ByteArray := prog_1_method_86_code
def yX6_canChance : MethodName := ⟨RX6, "canChance", "(I)Z"⟩
abbrev cX6_areTwo : ByteArray := prog_1_method_87_code
def yX6_areTwo : MethodName := ⟨RX6, "areTwo", "(II)Z"⟩
abbrev cX6_isSlot : ByteArray := prog_1_method_88_code
def yX6_isSlot : MethodName := ⟨RX6, "isSlot", "(I)Z"⟩
abbrev cX6_isSeed : ByteArray := prog_1_method_89_code
def yX6_isSeed : MethodName := ⟨RX6, "isSeed", "(I)Z"⟩
abbrev cX6_slotsWithRow : ByteArray := prog_1_method_90_code
def yX6_slotsWithRow : MethodName := ⟨RX6, "slotsWithRow", "()I"⟩
abbrev cX6_whyNotSeen : ByteArray := prog_1_method_91_code
def yX6_whyNotSeen : MethodName := ⟨RX6, "whyNotSeen", "(I)I"⟩
abbrev cX6_guessCold : ByteArray := prog_1_method_92_code
def yX6_guessCold : MethodName := ⟨RX6, "guessCold", "(II)I"⟩
abbrev cX6_worthOf : ByteArray := prog_1_method_93_code
def yX6_worthOf : MethodName := ⟨RX6, "worthOf", "(I)I"⟩
abbrev cX6_winOf : ByteArray := prog_1_method_94_code
def yX6_winOf : MethodName := ⟨RX6, "winOf", "(IIII)I"⟩
abbrev cX6_isAtRest : ByteArray := prog_1_method_95_code
def yX6_isAtRest : MethodName := ⟨RX6, "isAtRest", "(IIII)Z"⟩
abbrev cX6_tryWinter : ByteArray := prog_1_method_96_code
def yX6_tryWinter : MethodName := ⟨RX6, "tryWinter", "(II)J"⟩
abbrev cX6_drawHard : ByteArray := prog_1_method_97_code
def yX6_drawHard : MethodName := ⟨RX6, "drawHard", "(I)I"⟩
abbrev cX6_factorial : ByteArray := prog_1_method_98_code
def yX6_factorial : MethodName := ⟨RX6, "factorial", "(I)J"⟩
abbrev cX6_power : ByteArray := prog_1_method_99_code
def yX6_power : MethodName := ⟨RX6, "power", "(II)J"⟩
abbrev cX6_lowestTerm : ByteArray := prog_1_method_100_code
def yX6_lowestTerm : MethodName := ⟨RX6, "lowestTerm", "(JJI)J"⟩
def RX7 : String := "WaistcoatGreenModel"
def TX7 : u_T := fun k => match k with
  | 0 => ("WaistcoatGreenModel", "thrown", "I", false)
  | 1 => ("WaistcoatGreenModel", "width", "[I", true)
  | 2 => ("WaistcoatGreenModel", "many", "[I", true)
  | 3 => ("WaistcoatGreenModel", "cells", "[J", true)
  | 4 => ("WaistcoatGreenModel", "moved", "[J", true)
  | 5 => ("WaistcoatGreenModel", "tape", "[B", true)
  | 6 => ("WaistcoatGreenModel", "taped", "I", false)
  | 7 => ("WaistcoatGreenModel", "spot", "I", false)
  | 8 => ("WaistcoatGreenModel", "token", "I", false)
  | 9 => ("WaistcoatGreenModel", "place", "I", false)
  | 10 => ("WaistcoatGreenModel", "value", "I", false)
  | 11 => ("WaistcoatGreenModel", "word", "J", false)
  | 12 => ("WaistcoatGreenModel", "bad", "I", false)
  | 13 => ("WaistcoatGreenModel", "badPlace", "I", false)
  | 14 => ("WaistcoatGreenModel", "fault", "I", false)
  | 15 => ("WaistcoatGreenModel", "faultPlace", "I", false)
  | 16 => ("WaistcoatGreenModel", "lines", "[I", true)
  | 17 => ("WaistcoatGreenModel", "has", "[I", true)
  | 18 => ("WaistcoatGreenModel", "man", "[I", true)
  | 19 => ("WaistcoatGreenModel", "hand", "[I", true)
  | 20 => ("WaistcoatGreenModel", "ice", "[I", true)
  | 21 => ("WaistcoatGreenModel", "act", "[I", true)
  | 22 => ("WaistcoatGreenModel", "isKept", "[Z", true)
  | 23 => ("WaistcoatGreenModel", "law", "I", false)
  | 24 => ("WaistcoatGreenModel", "hard", "I", false)
  | 25 => ("WaistcoatGreenModel", "refusing", "I", false)
  | 26 => ("WaistcoatGreenModel", "outside", "I", false)
  | 27 => ("WaistcoatGreenModel", "begun", "I", false)
  | 28 => ("WaistcoatGreenModel", "coldTold", "[I", true)
  | 29 => ("WaistcoatGreenModel", "shyTold", "[I", true)
  | 30 => ("WaistcoatGreenModel", "handOf", "[I", true)
  | 31 => ("WaistcoatGreenModel", "haves", "[I", true)
  | 32 => ("WaistcoatGreenModel", "passed", "[I", true)
  | 33 => ("WaistcoatGreenModel", "cold", "[I", true)
  | 34 => ("WaistcoatGreenModel", "lieBest", "I", false)
  | 35 => ("WaistcoatGreenModel", "lieLeast", "I", false)
  | 36 => ("WaistcoatGreenModel", "planLeast", "I", false)
  | 37 => ("WaistcoatGreenModel", "planMany", "I", false)
  | 38 => ("WaistcoatGreenModel", "planRow", "[I", true)
  | 39 => ("WaistcoatGreenModel", "planNow", "[I", true)
  | 40 => ("WaistcoatGreenModel", "planCold", "[I", true)
  | 41 => ("WaistcoatGreenModel", "seenMany", "I", false)
  | 42 => ("WaistcoatGreenModel", "seenLow", "I", false)
  | 43 => ("WaistcoatGreenModel", "seenHigh", "I", false)
  | 44 => ("WaistcoatGreenModel", "askBest", "I", false)
  | 45 => ("WaistcoatGreenModel", "askLeaves", "I", false)
  | _ => ("WaistcoatGreenModel", "oftenAt", "[I", true)
def tyX7 : Nat → FieldType := fun k => match k with
  | 0 => .int
  | 1 => .array .int
  | 2 => .array .int
  | 3 => .array .long
  | 4 => .array .long
  | 5 => .array .byte
  | 6 => .int
  | 7 => .int
  | 8 => .int
  | 9 => .int
  | 10 => .int
  | 11 => .long
  | 12 => .int
  | 13 => .int
  | 14 => .int
  | 15 => .int
  | 16 => .array .int
  | 17 => .array .int
  | 18 => .array .int
  | 19 => .array .int
  | 20 => .array .int
  | 21 => .array .int
  | 22 => .array .boolean
  | 23 => .int
  | 24 => .int
  | 25 => .int
  | 26 => .int
  | 27 => .int
  | 28 => .array .int
  | 29 => .array .int
  | 30 => .array .int
  | 31 => .array .int
  | 32 => .array .int
  | 33 => .array .int
  | 34 => .int
  | 35 => .int
  | 36 => .int
  | 37 => .int
  | 38 => .array .int
  | 39 => .array .int
  | 40 => .array .int
  | 41 => .int
  | 42 => .int
  | 43 => .int
  | 44 => .int
  | 45 => .int
  | _ => .array .int
abbrev wsX70 : List Cond := u_ws RX7 TX7 47
theorem nmX7 : ∀ a, a < 47 → ∀ b, b < 47 → a ≠ b → (TX7 a).2.1 ≠ (TX7 b).2.1 := by decide +kernel
theorem tyX7_ok : ∀ k, k < 47 → parseFieldDescriptor (TX7 k).2.2.1 = some (tyX7 k) := by decide +kernel
abbrev cX7_init : ByteArray := prog_9_method_1_code
def yX7_init : MethodName := ⟨RX7, "<init>", "()V"⟩
abbrev cX7_in : ByteArray := prog_9_method_3_code
def yX7_in : MethodName := ⟨RX7, "in", "(JJJ)Z"⟩
abbrev cX7_isSlot : ByteArray := prog_9_method_4_code
def yX7_isSlot : MethodName := ⟨RX7, "isSlot", "(I)Z"⟩
abbrev cX7_row : ByteArray := prog_9_method_5_code
def yX7_row : MethodName := ⟨RX7, "row", "(III)I"⟩
abbrev cX7_cut : ByteArray := prog_9_method_6_code
def yX7_cut : MethodName := ⟨RX7, "cut", "(JI)J"⟩
abbrev cX7_write : ByteArray := prog_9_method_7_code
def yX7_write : MethodName := ⟨RX7, "write", "(IIJ)I"⟩
abbrev cX7_paste : ByteArray := prog_9_method_8_code
def yX7_paste : MethodName := ⟨RX7, "paste", "(IIIII)I"⟩
abbrev cX7_feed : ByteArray := prog_9_method_9_code
def yX7_feed : MethodName := ⟨RX7, "feed", "(IIIII)I"⟩
abbrev cX7_four : ByteArray := prog_9_method_10_code
def yX7_four : MethodName := ⟨RX7, "four", "(I)V"⟩
abbrev cX7_end : ByteArray := prog_9_method_11_code
def yX7_end : MethodName := ⟨RX7, "end", "(I)I"⟩
abbrev cX7_isByte : ByteArray := prog_9_method_12_code
def yX7_isByte : MethodName := ⟨RX7, "isByte", "(III)Z"⟩
abbrev cX7_next : ByteArray := prog_9_method_13_code
def yX7_next : MethodName := ⟨RX7, "next", "()V"⟩
abbrev cX7_isGood : ByteArray := prog_9_method_14_code
def yX7_isGood : MethodName := ⟨RX7, "isGood", "()Z"⟩
abbrev cX7_fails : ByteArray := prog_9_method_15_code
def yX7_fails : MethodName := ⟨RX7, "fails", "(I)V"⟩
abbrev cX7_is : ByteArray := prog_9_method_16_code
def yX7_is : MethodName := ⟨RX7, "is", "(J)Z"⟩
abbrev cX7_takesWord : ByteArray := prog_9_method_17_code
def yX7_takesWord : MethodName := ⟨RX7, "takesWord", "(J)Z"⟩
abbrev cX7_asks : ByteArray := prog_9_method_18_code
def yX7_asks : MethodName := ⟨RX7, "asks", "(J)V"⟩
abbrev cX7_number : ByteArray := prog_9_method_19_code
def yX7_number : MethodName := ⟨RX7, "number", "(II)I"⟩
abbrev cX7_number_ : ByteArray := prog_9_method_20_code
def yX7_number_ : MethodName := ⟨RX7, "number", "(JII)I"⟩
abbrev cX7_ends : ByteArray := prog_9_method_21_code
def yX7_ends : MethodName := ⟨RX7, "ends", "()V"⟩
abbrev cX7_begins : ByteArray := prog_9_method_22_code
def yX7_begins : MethodName := ⟨RX7, "begins", "()V"⟩
abbrev cX7_isOver : ByteArray := prog_9_method_23_code
def yX7_isOver : MethodName := ⟨RX7, "isOver", "()V"⟩
abbrev cX7_fault : ByteArray := prog_9_method_24_code
def yX7_fault : MethodName := ⟨RX7, "fault", "(I)I"⟩
abbrev cX7_hasRead : ByteArray := prog_9_method_25_code
def yX7_hasRead : MethodName := ⟨RX7, "hasRead", "(I)I"⟩
abbrev cX7_tells : ByteArray := prog_9_method_26_code
def yX7_tells : MethodName := ⟨RX7, "tells", "(II)V"⟩
abbrev cX7_manHere : ByteArray := prog_9_method_27_code
def yX7_manHere : MethodName := ⟨RX7, "manHere", "()I"⟩
abbrev cX7_villagerLine : ByteArray := prog_9_method_28_code
def yX7_villagerLine : MethodName := ⟨RX7, "villagerLine", "()V"⟩
abbrev cX7_handLine : ByteArray := prog_9_method_29_code
def yX7_handLine : MethodName := ⟨RX7, "handLine", "()V"⟩
abbrev cX7_frostLine : ByteArray := prog_9_method_30_code
def yX7_frostLine : MethodName := ⟨RX7, "frostLine", "()V"⟩
abbrev cX7_isRoom : ByteArray := prog_9_method_31_code
def yX7_isRoom : MethodName := ⟨RX7, "isRoom", "(ZII)Z"⟩
abbrev cX7_lineHere : ByteArray := prog_9_method_32_code
def yX7_lineHere : MethodName := ⟨RX7, "lineHere", "()V"⟩
abbrev cX7_clears : ByteArray := prog_9_method_33_code
def yX7_clears : MethodName := ⟨RX7, "clears", "()V"⟩
abbrev cX7_green : ByteArray := prog_9_method_34_code
def yX7_green : MethodName := ⟨RX7, "green", "()I"⟩
abbrev cX7_copyRow : ByteArray := prog_9_method_35_code
def yX7_copyRow : MethodName := ⟨RX7, "copyRow", "([IIII)V"⟩
abbrev cX7_copyGreen : ByteArray := prog_9_method_36_code
def yX7_copyGreen : MethodName := ⟨RX7, "copyGreen", "(II)V"⟩
abbrev cX7_isGreen : ByteArray := prog_9_method_37_code
def yX7_isGreen : MethodName := ⟨RX7, "isGreen", "()Z"⟩
abbrev cX7_folk : ByteArray := prog_9_method_38_code
def yX7_folk : MethodName := ⟨RX7, "folk", "()I"⟩
abbrev cX7_mornings : ByteArray := prog_9_method_39_code
def yX7_mornings : MethodName := ⟨RX7, "mornings", "()I"⟩
abbrev cX7_isMan : ByteArray := prog_9_method_40_code
def yX7_isMan : MethodName := ⟨RX7, "isMan", "(J)Z"⟩
abbrev cX7_isMorning : ByteArray := prog_9_method_41_code
def yX7_isMorning : MethodName := ⟨RX7, "isMorning", "(J)Z"⟩
abbrev cX7_isAhead : ByteArray := prog_9_method_42_code
def yX7_isAhead : MethodName := ⟨RX7, "isAhead", "(I)Z"⟩
abbrev cX7_areTwo : ByteArray := prog_9_method_43_code
def yX7_areTwo : MethodName := ⟨RX7, "areTwo", "(II)Z"⟩
abbrev cX7_isThen : ByteArray := prog_9_method_44_code
def yX7_isThen : MethodName := ⟨RX7, "isThen", "(II)Z"⟩
abbrev cX7_isHalf : ByteArray := prog_9_method_45_code
def yX7_isHalf : MethodName := ⟨RX7, "isHalf", "(I)Z"⟩
abbrev cX7_isBit : ByteArray := prog_9_method_46_code
def yX7_isBit : MethodName := ⟨RX7, "isBit", "(II)Z"⟩
abbrev cX7_sizeOf : ByteArray := prog_9_method_47_code
def yX7_sizeOf : MethodName := ⟨RX7, "sizeOf", "(I)I"⟩
abbrev cX7_lessOf : ByteArray := prog_9_method_48_code
def yX7_lessOf : MethodName := ⟨RX7, "lessOf", "(II)I"⟩
abbrev cX7_moreOf : ByteArray := prog_9_method_49_code
def yX7_moreOf : MethodName := ⟨RX7, "moreOf", "(II)I"⟩
abbrev cX7_lays : ByteArray := prog_9_method_50_code
def yX7_lays : MethodName := ⟨RX7, "lays", "()V"⟩
abbrev cX7_joins : ByteArray := prog_9_method_51_code
def yX7_joins : MethodName := ⟨RX7, "joins", "(II)V"⟩
abbrev cX7_reachOf : ByteArray := prog_9_method_52_code
def yX7_reachOf : MethodName := ⟨RX7, "reachOf", "(I)I"⟩
abbrev cX7_frostAt : ByteArray := prog_9_method_53_code
def yX7_frostAt : MethodName := ⟨RX7, "frostAt", "(I)I"⟩
abbrev cX7_sung : ByteArray := prog_9_method_54_code
def yX7_sung : MethodName := ⟨RX7, "sung", "(III)I"⟩
abbrev cX7_givenAt : ByteArray := prog_9_method_55_code
def yX7_givenAt : MethodName := ⟨RX7, "givenAt", "(I)I"⟩
abbrev cX7_coldAt : ByteArray := prog_9_method_56_code
def yX7_coldAt : MethodName := ⟨RX7, "coldAt", "(II)I"⟩
abbrev cX7_isTaking : ByteArray := prog_9_method_57_code
def yX7_isTaking : MethodName := ⟨RX7, "isTaking", "(II)Z"⟩
abbrev cX7_passOf : ByteArray := prog_9_method_58_code
def yX7_passOf : MethodName := ⟨RX7, "passOf", "(II)I"⟩
abbrev cX7_nextCold : ByteArray := prog_9_method_59_code
def yX7_nextCold : MethodName := ⟨RX7, "nextCold", "(IIIZ)I"⟩
abbrev cX7_runs : ByteArray := prog_9_method_60_code
def yX7_runs : MethodName := ⟨RX7, "runs", "()V"⟩
abbrev cX7_laysNow : ByteArray := prog_9_method_61_code
def yX7_laysNow : MethodName := ⟨RX7, "laysNow", "()V"⟩
abbrev cX7_sufferOf : ByteArray := prog_9_method_62_code
def yX7_sufferOf : MethodName := ⟨RX7, "sufferOf", "(I)I"⟩
abbrev cX7_allAt : ByteArray := prog_9_method_63_code
def yX7_allAt : MethodName := ⟨RX7, "allAt", "(I)I"⟩
abbrev cX7_sumNow : ByteArray := prog_9_method_64_code
def yX7_sumNow : MethodName := ⟨RX7, "sumNow", "()I"⟩
abbrev cX7_villager : ByteArray := prog_9_method_65_code
def yX7_villager : MethodName := ⟨RX7, "villager", "(II)I"⟩
abbrev cX7_hands : ByteArray := prog_9_method_66_code
def yX7_hands : MethodName := ⟨RX7, "hands", "(I)I"⟩
abbrev cX7_far : ByteArray := prog_9_method_67_code
def yX7_far : MethodName := ⟨RX7, "far", "(II)I"⟩
abbrev cX7_reach : ByteArray := prog_9_method_68_code
def yX7_reach : MethodName := ⟨RX7, "reach", "(I)I"⟩
abbrev cX7_coverOf : ByteArray := prog_9_method_69_code
def yX7_coverOf : MethodName := ⟨RX7, "coverOf", "()I"⟩
abbrev cX7_cover : ByteArray := prog_9_method_70_code
def yX7_cover : MethodName := ⟨RX7, "cover", "()I"⟩
abbrev cX7_covers : ByteArray := prog_9_method_71_code
def yX7_covers : MethodName := ⟨RX7, "covers", "()I"⟩
abbrev cX7_has : ByteArray := prog_9_method_72_code
def yX7_has : MethodName := ⟨RX7, "has", "(I)I"⟩
abbrev cX7_cold : ByteArray := prog_9_method_73_code
def yX7_cold : MethodName := ⟨RX7, "cold", "(II)I"⟩
abbrev cX7_takes : ByteArray := prog_9_method_74_code
def yX7_takes : MethodName := ⟨RX7, "takes", "(I)I"⟩
abbrev cX7_oneAt : ByteArray := prog_9_method_75_code
def yX7_oneAt : MethodName := ⟨RX7, "oneAt", "(II)I"⟩
abbrev cX7_coldest : ByteArray := prog_9_method_76_code
def yX7_coldest : MethodName := ⟨RX7, "coldest", "(I)I"⟩
abbrev cX7_warmest : ByteArray := prog_9_method_77_code
def yX7_warmest : MethodName := ⟨RX7, "warmest", "(I)I"⟩
abbrev cX7_all : ByteArray := prog_9_method_78_code
def yX7_all : MethodName := ⟨RX7, "all", "(I)I"⟩
abbrev cX7_passes : ByteArray := prog_9_method_79_code
def yX7_passes : MethodName := ⟨RX7, "passes", "(I)I"⟩
abbrev cX7_wornBy : ByteArray := prog_9_method_80_code
def yX7_wornBy : MethodName := ⟨RX7, "wornBy", "(I)I"⟩
abbrev cX7_worn : ByteArray := prog_9_method_81_code
def yX7_worn : MethodName := ⟨RX7, "worn", "(I)I"⟩
abbrev cX7_getsAt : ByteArray := prog_9_method_82_code
def yX7_getsAt : MethodName := ⟨RX7, "getsAt", "(I)I"⟩
abbrev cX7_gets : ByteArray := prog_9_method_83_code
def yX7_gets : MethodName := ⟨RX7, "gets", "(I)I"⟩
abbrev cX7_keeps : ByteArray := prog_9_method_84_code
def yX7_keeps : MethodName := ⟨RX7, "keeps", "(I)I"⟩
abbrev cX7_pump : ByteArray := prog_9_method_85_code
def yX7_pump : MethodName := ⟨RX7, "pump", "()I"⟩
abbrev cX7_right : ByteArray := prog_9_method_86_code
def yX7_right : MethodName := ⟨RX7, "right", "()I"⟩
abbrev cX7_stops : ByteArray := prog_9_method_87_code
def yX7_stops : MethodName := ⟨RX7, "stops", "()I"⟩
abbrev cX7_round : ByteArray := prog_9_method_88_code
def yX7_round : MethodName := ⟨RX7, "round", "()I"⟩
abbrev cX7_suffers : ByteArray := prog_9_method_89_code
def yX7_suffers : MethodName := ⟨RX7, "suffers", "(I)I"⟩
abbrev cX7_sum : ByteArray := prog_9_method_90_code
def yX7_sum : MethodName := ⟨RX7, "sum", "()I"⟩
abbrev cX7_worst : ByteArray := prog_9_method_91_code
def yX7_worst : MethodName := ⟨RX7, "worst", "()I"⟩
abbrev cX7_freezes : ByteArray := prog_9_method_92_code
def yX7_freezes : MethodName := ⟨RX7, "freezes", "(II)I"⟩
abbrev cX7_bluest : ByteArray := prog_9_method_93_code
def yX7_bluest : MethodName := ⟨RX7, "bluest", "(I)I"⟩
abbrev cX7_blue : ByteArray := prog_9_method_94_code
def yX7_blue : MethodName := ⟨RX7, "blue", "()I"⟩
abbrev cX7_alike : ByteArray := prog_9_method_95_code
def yX7_alike : MethodName := ⟨RX7, "alike", "(I)I"⟩
abbrev cX7_colder : ByteArray := prog_9_method_96_code
def yX7_colder : MethodName := ⟨RX7, "colder", "(II)I"⟩
abbrev cX7_near : ByteArray := prog_9_method_97_code
def yX7_near : MethodName := ⟨RX7, "near", "(I)I"⟩
abbrev cX7_frost : ByteArray := prog_9_method_98_code
def yX7_frost : MethodName := ⟨RX7, "frost", "(I)I"⟩
abbrev cX7_jumps : ByteArray := prog_9_method_99_code
def yX7_jumps : MethodName := ⟨RX7, "jumps", "()I"⟩
abbrev cX7_longest : ByteArray := prog_9_method_100_code
def yX7_longest : MethodName := ⟨RX7, "longest", "()I"⟩
abbrev cX7_fair : ByteArray := prog_9_method_101_code
def yX7_fair : MethodName := ⟨RX7, "fair", "()I"⟩
abbrev cX7_rises : ByteArray := prog_9_method_102_code
def yX7_rises : MethodName := ⟨RX7, "rises", "(I)I"⟩
abbrev cX7_waits : ByteArray := prog_9_method_103_code
def yX7_waits : MethodName := ⟨RX7, "waits", "(I)I"⟩
abbrev cX7_returns : ByteArray := prog_9_method_104_code
def yX7_returns : MethodName := ⟨RX7, "returns", "(I)I"⟩
abbrev cX7_laysLie : ByteArray := prog_9_method_105_code
def yX7_laysLie : MethodName := ⟨RX7, "laysLie", "(I)V"⟩
abbrev cX7_gainOf : ByteArray := prog_9_method_106_code
def yX7_gainOf : MethodName := ⟨RX7, "gainOf", "(I)I"⟩
abbrev cX7_lies : ByteArray := prog_9_method_107_code
def yX7_lies : MethodName := ⟨RX7, "lies", "(I)I"⟩
abbrev cX7_gains : ByteArray := prog_9_method_108_code
def yX7_gains : MethodName := ⟨RX7, "gains", "(I)I"⟩
abbrev cX7_liars : ByteArray := prog_9_method_109_code
def yX7_liars : MethodName := ⟨RX7, "liars", "()I"⟩
abbrev cX7_start : ByteArray := prog_9_method_110_code
def yX7_start : MethodName := ⟨RX7, "start", "()I"⟩
abbrev cX7_join : ByteArray := prog_9_method_111_code
def yX7_join : MethodName := ⟨RX7, "join", "()I"⟩
abbrev cX7_planFrom : ByteArray := prog_9_method_112_code
def yX7_planFrom : MethodName := ⟨RX7, "planFrom", "(III)V"⟩
abbrev cX7_laysPlan : ByteArray := prog_9_method_113_code
def yX7_laysPlan : MethodName := ⟨RX7, "laysPlan", "(I)V"⟩
abbrev cX7_isPlan : ByteArray := prog_9_method_114_code
def yX7_isPlan : MethodName := ⟨RX7, "isPlan", "(I)Z"⟩
abbrev cX7_plan : ByteArray := prog_9_method_115_code
def yX7_plan : MethodName := ⟨RX7, "plan", "(I)I"⟩
abbrev cX7_planned : ByteArray := prog_9_method_116_code
def yX7_planned : MethodName := ⟨RX7, "planned", "(II)I"⟩
abbrev cX7_plans : ByteArray := prog_9_method_117_code
def yX7_plans : MethodName := ⟨RX7, "plans", "(I)I"⟩
abbrev cX7_whyNot : ByteArray := prog_9_method_118_code
def yX7_whyNot : MethodName := ⟨RX7, "whyNot", "(IZ)I"⟩
abbrev cX7_isSo : ByteArray := prog_9_method_119_code
def yX7_isSo : MethodName := ⟨RX7, "isSo", "(I)Z"⟩
abbrev cX7_laysSeen : ByteArray := prog_9_method_120_code
def yX7_laysSeen : MethodName := ⟨RX7, "laysSeen", "(II)V"⟩
abbrev cX7_colds : ByteArray := prog_9_method_121_code
def yX7_colds : MethodName := ⟨RX7, "colds", "(II)I"⟩
abbrev cX7_low : ByteArray := prog_9_method_122_code
def yX7_low : MethodName := ⟨RX7, "low", "(II)I"⟩
abbrev cX7_high : ByteArray := prog_9_method_123_code
def yX7_high : MethodName := ⟨RX7, "high", "(II)I"⟩
abbrev cX7_ask : ByteArray := prog_9_method_124_code
def yX7_ask : MethodName := ⟨RX7, "ask", "(II)I"⟩
abbrev cX7_leaves : ByteArray := prog_9_method_125_code
def yX7_leaves : MethodName := ⟨RX7, "leaves", "(II)I"⟩
abbrev cX7_sumBy : ByteArray := prog_9_method_126_code
def yX7_sumBy : MethodName := ⟨RX7, "sumBy", "(I)I"⟩
abbrev cX7_laws : ByteArray := prog_9_method_127_code
def yX7_laws : MethodName := ⟨RX7, "laws", "(I)I"⟩
abbrev cX7_by : ByteArray := prog_9_method_128_code
def yX7_by : MethodName := ⟨RX7, "by", "(I)I"⟩
abbrev cX7_law : ByteArray := prog_9_method_129_code
def yX7_law : MethodName := ⟨RX7, "law", "()I"⟩
abbrev cX7_worthOf : ByteArray := prog_9_method_130_code
def yX7_worthOf : MethodName := ⟨RX7, "worthOf", "(I)I"⟩
abbrev cX7_worth : ByteArray := prog_9_method_131_code
def yX7_worth : MethodName := ⟨RX7, "worth", "(I)I"⟩
abbrev cX7_times : ByteArray := prog_9_method_132_code
def yX7_times : MethodName := ⟨RX7, "times", "(I)I"⟩
abbrev cX7_common : ByteArray := prog_9_method_133_code
def yX7_common : MethodName := ⟨RX7, "common", "(JJ)J"⟩
abbrev cX7_part : ByteArray := prog_9_method_134_code
def yX7_part : MethodName := ⟨RX7, "part", "(JJI)J"⟩
abbrev cX7_share : ByteArray := prog_9_method_135_code
def yX7_share : MethodName := ⟨RX7, "share", "(II)I"⟩
abbrev cX7_winsBy : ByteArray := prog_9_method_136_code
def yX7_winsBy : MethodName := ⟨RX7, "winsBy", "(IIIII)I"⟩
abbrev cX7_rests : ByteArray := prog_9_method_137_code
def yX7_rests : MethodName := ⟨RX7, "rests", "(II)I"⟩
abbrev cX7_wins : ByteArray := prog_9_method_138_code
def yX7_wins : MethodName := ⟨RX7, "wins", "(IIII)I"⟩
abbrev cX7_power : ByteArray := prog_9_method_139_code
def yX7_power : MethodName := ⟨RX7, "power", "(JI)J"⟩
abbrev cX7_weightOf : ByteArray := prog_9_method_140_code
def yX7_weightOf : MethodName := ⟨RX7, "weightOf", "(II)J"⟩
abbrev cX7_isSoon : ByteArray := prog_9_method_141_code
def yX7_isSoon : MethodName := ⟨RX7, "isSoon", "(I)Z"⟩
abbrev cX7_chance : ByteArray := prog_9_method_142_code
def yX7_chance : MethodName := ⟨RX7, "chance", "(III)I"⟩
abbrev cX7_mean : ByteArray := prog_9_method_143_code
def yX7_mean : MethodName := ⟨RX7, "mean", "(II)J"⟩
abbrev cX7_draws : ByteArray := prog_9_method_144_code
def yX7_draws : MethodName := ⟨RX7, "draws", "(J)V"⟩
abbrev cX7_isSeed : ByteArray := prog_9_method_145_code
def yX7_isSeed : MethodName := ⟨RX7, "isSeed", "(I)Z"⟩
abbrev cX7_drawn : ByteArray := prog_9_method_146_code
def yX7_drawn : MethodName := ⟨RX7, "drawn", "(II)I"⟩
abbrev cX7_luck : ByteArray := prog_9_method_147_code
def yX7_luck : MethodName := ⟨RX7, "luck", "(III)I"⟩
abbrev cX7_does : ByteArray := prog_9_method_148_code
def yX7_does : MethodName := ⟨RX7, "does", "(III)V"⟩
abbrev cX7_gives : ByteArray := prog_9_method_149_code
def yX7_gives : MethodName := ⟨RX7, "gives", "(II)I"⟩
abbrev cX7_sings : ByteArray := prog_9_method_150_code
def yX7_sings : MethodName := ⟨RX7, "sings", "(II)I"⟩
abbrev cX7_undo : ByteArray := prog_9_method_151_code
def yX7_undo : MethodName := ⟨RX7, "undo", "()I"⟩
abbrev cX7_anew : ByteArray := prog_9_method_152_code
def yX7_anew : MethodName := ⟨RX7, "anew", "()I"⟩
abbrev cX7_rate : ByteArray := prog_9_method_153_code
def yX7_rate : MethodName := ⟨RX7, "rate", "(II)I"⟩
abbrev cX7_count : ByteArray := prog_9_method_154_code
def yX7_count : MethodName := ⟨RX7, "count", "(I)I"⟩
abbrev cX7_image : ByteArray := prog_9_method_155_code
def yX7_image : MethodName := ⟨RX7, "image", "(I)I"⟩
abbrev cX7_back : ByteArray := prog_9_method_156_code
def yX7_back : MethodName := ⟨RX7, "back", "(I)I"⟩
def RJ6 : String := "java/lang/Integer"
abbrev cJ6_bitCount_0f7a4 : ByteArray := prog_10_method_49_code
def yJ6_bitCount_0f7a4 : MethodName := ⟨RJ6, "bitCount", "(I)I"⟩
def RJ9 : String := "java/lang/Math"
abbrev cJ9_abs_067f4 : ByteArray := prog_11_method_61_code
def yJ9_abs_067f4 : MethodName := ⟨RJ9, "abs", "(J)J"⟩
abbrev cJ9_max_7cf53 : ByteArray := prog_11_method_65_code
def yJ9_max_7cf53 : MethodName := ⟨RJ9, "max", "(II)I"⟩
abbrev cJ9_min_7cf53 : ByteArray := prog_11_method_69_code
def yJ9_min_7cf53 : MethodName := ⟨RJ9, "min", "(II)I"⟩
def RJ0 : String := "java/lang/String"
abbrev cJ0_length_8abf5 : ByteArray := prog_12_method_54_code
def yJ0_length_8abf5 : MethodName := ⟨RJ0, "length", "()I"⟩
abbrev cJ0_charAt_5068e : ByteArray := prog_12_method_56_code
def yJ0_charAt_5068e : MethodName := ⟨RJ0, "charAt", "(I)C"⟩
abbrev cJ0_coder_7d493 : ByteArray := prog_12_method_152_code
def yJ0_coder_7d493 : MethodName := ⟨RJ0, "coder", "()B"⟩
abbrev cJ0_isLatin1_aae02 : ByteArray := prog_12_method_154_code
def yJ0_isLatin1_aae02 : MethodName := ⟨RJ0, "isLatin1", "()Z"⟩
abbrev cJ0_checkIndex_df160 : ByteArray := prog_12_method_155_code
def yJ0_checkIndex_df160 : MethodName := ⟨RJ0, "checkIndex", "(II)V"⟩
def RJ1 : String := "java/lang/StringLatin1"
abbrev cJ1_charAt_3b067 : ByteArray := prog_13_method_2_code
def yJ1_charAt_3b067 : MethodName := ⟨RJ1, "charAt", "([BI)C"⟩
def RJ2 : String := "java/lang/StringUTF16"
abbrev cJ2_getChar_3b067 : ByteArray := prog_14_method_5_code
def yJ2_getChar_3b067 : MethodName := ⟨RJ2, "getChar", "([BI)C"⟩
abbrev cJ2_length_9d52b : ByteArray := prog_14_method_6_code
def yJ2_length_9d52b : MethodName := ⟨RJ2, "length", "([B)I"⟩
abbrev cJ2_charAt_3b067 : ByteArray := prog_14_method_83_code
def yJ2_charAt_3b067 : MethodName := ⟨RJ2, "charAt", "([BI)C"⟩
abbrev cJ2_checkIndex_2214a : ByteArray := prog_14_method_91_code
def yJ2_checkIndex_2214a : MethodName := ⟨RJ2, "checkIndex", "(I[B)V"⟩
def RJ10 : String := "java/lang/System"
def RJ3 : String := "jdk/internal/util/Preconditions"
abbrev cJ3_checkIndex_8e157 : ByteArray := prog_16_method_11_code
def yJ3_checkIndex_8e157 : MethodName := ⟨RJ3, "checkIndex", "(IILjava/util/function/BiFunction;)I"⟩
def RL : String := "WaistcoatGreenLaw"
abbrev vwCl : List vw_C := [(RX0, TX0, 18), (RX1, TX1, 4), (RX2, TX2, 5), (RX3, TX3, 8), (RX4, TX4, 4), (RX5, TX5, 12), (RX6, TX6, 11), (RX7, TX7, 47)]
end
section
/-! ===== a checker of methods: abstract values, and what they mean ===== -/
/-- an abstract value: 0 an int, 1 a long (a symbol and what is added), 2 a cell by its place, 3 null -/
abbrev zV : Type := Nat × Nat × Int
abbrev zI : Type := Int × Int
/-- a cell: an object (class, fields), an array of numbers (type, length, contents' name, bounds), an array of references -/
abbrev zC : Type := (Nat × List zV) ⊕ ((Nat × Nat × Nat × Int × Int) ⊕ (Nat × List zV))
abbrev zP : Type := (Nat → Int32) ⊕ (Nat → Int64)
/-- symbols' bounds, names of contents, locals, stack, heap, cells and slots made -/
abbrev zS : Type := List zI × Nat × List (Nat × zV) × List zV × List zC × Nat × Nat
def z_ile : Int → Int → Bool
  | .ofNat a, .ofNat b => Nat.ble a b
  | .negSucc _, .ofNat _ => true
  | .ofNat _, .negSucc _ => false
  | .negSucc a, .negSucc b => Nat.ble b a
theorem z_ile_ok {a b : Int} (h : z_ile a b = true) : a ≤ b := by
  cases a with
  | ofNat a =>
    cases b with
    | ofNat b =>
      have h1 := Nat.le_of_ble_eq_true h
      show (a : Int) ≤ (b : Int)
      omega
    | negSucc b => cases h
  | negSucc a =>
    cases b with
    | ofNat b =>
      show Int.negSucc a ≤ (b : Int)
      omega
    | negSucc b =>
      have h1 := Nat.le_of_ble_eq_true h
      omega
theorem z_ile_no {a b : Int} (h : z_ile a b = false) : b < a := by
  cases a with
  | ofNat a =>
    cases b with
    | ofNat b =>
      have h1 : ¬ a ≤ b := fun q => by
        have h2 := Nat.ble_eq_true_of_le q
        rw [show Nat.ble a b = z_ile (.ofNat a) (.ofNat b) from rfl, h] at h2
        cases h2
      show (b : Int) < (a : Int)
      omega
    | negSucc b =>
      show Int.negSucc b < (a : Int)
      omega
  | negSucc a =>
    cases b with
    | ofNat b => cases h
    | negSucc b =>
      have h1 : ¬ b ≤ a := fun q => by
        have h2 := Nat.ble_eq_true_of_le q
        rw [show Nat.ble b a = z_ile (.negSucc a) (.negSucc b) from rfl, h] at h2
        cases h2
      omega
def z_ieq (a b : Int) : Bool := z_ile a b && z_ile b a
theorem z_and {a b : Bool} (h : (a && b) = true) : a = true ∧ b = true := by
  cases a <;> cases b <;> first | exact ⟨rfl, rfl⟩ | cases h
theorem z_ieq_ok {a b : Int} (h : z_ieq a b = true) : a = b := by
  have h1 := z_and h
  have h2 := z_ile_ok h1.1
  have h3 := z_ile_ok h1.2
  omega
theorem z_beq {a b : Nat} (h : Nat.beq a b = true) : a = b := Nat.eq_of_beq_eq_true h
def z_max (a b : Int) : Int := if z_ile a b = true then b else a
def z_min (a b : Int) : Int := if z_ile a b = true then a else b
theorem z_max_ge {a b z : Int} (h1 : a ≤ z) (h2 : b ≤ z) : z_max a b ≤ z := by
  unfold z_max; split <;> assumption
theorem z_min_le {a b z : Int} (h1 : z ≤ a) (h2 : z ≤ b) : z ≤ z_min a b := by
  unfold z_min; split <;> assumption
theorem z_max_l (a b : Int) : a ≤ z_max a b := by
  unfold z_max; split
  · rename_i h; exact z_ile_ok h
  · exact Int.le_refl a
theorem z_max_r (a b : Int) : b ≤ z_max a b := by
  unfold z_max; split
  · exact Int.le_refl b
  · rename_i h
    have := z_ile_no (Bool.eq_false_iff.mpr h)
    omega
theorem z_min_l (a b : Int) : z_min a b ≤ a := by
  unfold z_min; split
  · exact Int.le_refl a
  · rename_i h
    have := z_ile_no (Bool.eq_false_iff.mpr h)
    omega
theorem z_min_r (a b : Int) : z_min a b ≤ b := by
  unfold z_min; split
  · rename_i h; exact z_ile_ok h
  · exact Int.le_refl b
/-! lists side by side -/
def z_F {α β : Type} (R : α → β → Prop) : List α → List β → Prop
  | [], [] => True
  | a :: l, b :: k => R a b ∧ z_F R l k
  | [], _ :: _ => False
  | _ :: _, [] => False
theorem z_F.len {α β : Type} {R : α → β → Prop} : ∀ {l : List α} {k : List β}, z_F R l k → l.length = k.length
  | [], [], _ => rfl
  | _ :: _, _ :: _, h => congrArg (· + 1) (z_F.len h.2)
  | [], _ :: _, h => h.elim
  | _ :: _, [], h => h.elim
theorem z_F.get {α β : Type} {R : α → β → Prop} : ∀ {l : List α} {k : List β}, z_F R l k → ∀ {i : Nat} {a : α}, l[i]? = some a → ∃ b, k[i]? = some b ∧ R a b
  | [], [], _, i, a, h => by simp at h
  | x :: l, y :: k, h, 0, a, e => by
    rw [List.getElem?_cons_zero] at e
    cases e
    exact ⟨y, by rw [List.getElem?_cons_zero], h.1⟩
  | x :: l, y :: k, h, i + 1, a, e => by
    rw [List.getElem?_cons_succ] at e
    obtain ⟨b, h1, h2⟩ := z_F.get h.2 e
    exact ⟨b, by rw [List.getElem?_cons_succ]; exact h1, h2⟩
  | [], _ :: _, h, _, _, _ => h.elim
  | _ :: _, [], h, _, _, _ => h.elim
theorem z_F.get' {α β : Type} {R : α → β → Prop} : ∀ {l : List α} {k : List β}, z_F R l k → ∀ {i : Nat} {b : β}, k[i]? = some b → ∃ a, l[i]? = some a ∧ R a b
  | [], [], _, i, a, h => by simp at h
  | x :: l, y :: k, h, 0, a, e => by
    rw [List.getElem?_cons_zero] at e
    cases e
    exact ⟨x, by rw [List.getElem?_cons_zero], h.1⟩
  | x :: l, y :: k, h, i + 1, a, e => by
    rw [List.getElem?_cons_succ] at e
    obtain ⟨b, h1, h2⟩ := z_F.get' h.2 e
    exact ⟨b, by rw [List.getElem?_cons_succ]; exact h1, h2⟩
  | [], _ :: _, h, _, _, _ => h.elim
  | _ :: _, [], h, _, _, _ => h.elim
theorem z_F.set {α β : Type} {R : α → β → Prop} {a : α} {b : β} (hab : R a b) : ∀ {l : List α} {k : List β}, z_F R l k → ∀ i : Nat, z_F R (l.set i a) (k.set i b)
  | [], [], _, i => trivial
  | x :: l, y :: k, h, 0 => ⟨hab, h.2⟩
  | x :: l, y :: k, h, i + 1 => ⟨h.1, z_F.set hab h.2 i⟩
  | [], _ :: _, h, _ => h.elim
  | _ :: _, [], h, _ => h.elim
theorem z_F.app {α β : Type} {R : α → β → Prop} {l2 : List α} {k2 : List β} (h2 : z_F R l2 k2) : ∀ {l : List α} {k : List β}, z_F R l k → z_F R (l ++ l2) (k ++ k2)
  | [], [], _ => h2
  | x :: l, y :: k, h => ⟨h.1, z_F.app h2 h.2⟩
  | [], _ :: _, h => h.elim
  | _ :: _, [], h => h.elim
theorem z_F.mono {α β : Type} {R R' : α → β → Prop} (hR : ∀ a b, R a b → R' a b) : ∀ {l : List α} {k : List β}, z_F R l k → z_F R' l k
  | [], [], _ => trivial
  | x :: l, y :: k, h => ⟨hR _ _ h.1, z_F.mono hR h.2⟩
  | [], _ :: _, h => h.elim
  | _ :: _, [], h => h.elim
theorem z_F.filter {α β : Type} {R : α → β → Prop} {f : α → Bool} {g : β → Bool} (hfg : ∀ a b, R a b → f a = g b) : ∀ {l : List α} {k : List β}, z_F R l k → z_F R (l.filter f) (k.filter g)
  | [], [], _ => trivial
  | x :: l, y :: k, h => by
    have e := hfg x y h.1
    rw [List.filter_cons, List.filter_cons, ← e]
    cases f x
    · exact z_F.filter hfg h.2
    · exact ⟨h.1, z_F.filter hfg h.2⟩
  | [], _ :: _, h => h.elim
  | _ :: _, [], h => h.elim
theorem z_F.split {α β : Type} {R : α → β → Prop} : ∀ {l l2 : List α} {k : List β}, z_F R (l ++ l2) k → ∃ k1 k2, k = k1 ++ k2 ∧ z_F R l k1 ∧ z_F R l2 k2
  | [], l2, k, h => ⟨[], k, rfl, trivial, h⟩
  | x :: l, l2, [], h => h.elim
  | x :: l, l2, y :: k, h => by
    obtain ⟨k1, k2, e, h1, h2⟩ := z_F.split (l := l) (l2 := l2) h.2
    exact ⟨y :: k1, k2, by rw [e]; rfl, ⟨h.1, h1⟩, h2⟩
theorem z_F.rev {α β : Type} {R : α → β → Prop} : ∀ {l : List α} {k : List β}, z_F R l k → z_F R l.reverse k.reverse
  | [], [], _ => trivial
  | x :: l, y :: k, h => by
    rw [List.reverse_cons, List.reverse_cons]
    exact z_F.app (l2 := [x]) (k2 := [y]) ⟨h.1, trivial⟩ (z_F.rev h.2)
  | [], _ :: _, h => h.elim
  | _ :: _, [], h => h.elim
theorem z_pre {α : Type} {l l' : List α} (h : l <+: l') {i : Nat} {a : α} (e : l[i]? = some a) : l'[i]? = some a := by
  obtain ⟨t, rfl⟩ := h
  have hl := (List.getElem?_eq_some_iff.mp e).1
  rw [List.getElem?_append_left hl]
  exact e
/-! what an abstract value means -/
def z_v (ρ : List Int) (x : Nat) (c z : Int) : Prop := ∃ w : Int, ρ[x]? = some w ∧ z = w + c
def z_m (ρ : List Int) (ad : List Nat) : zV → Value → Prop
  | (0, x, c), v => ∃ i : Int32, v = .int i ∧ z_v ρ x c i.toInt
  | (1, x, c), v => ∃ i : Int64, v = .long i ∧ z_v ρ x c i.toInt
  | (2, k, _), v => ∃ q : Nat, ad[k]? = some q ∧ v = .ref q
  | (_, _, _), v => v = .null
theorem z_v.mono {ρ ρ' : List Int} (h : ρ <+: ρ') {x : Nat} {c z : Int} (hv : z_v ρ x c z) : z_v ρ' x c z := by
  obtain ⟨w, h1, h2⟩ := hv
  exact ⟨w, z_pre h h1, h2⟩
theorem z_v.const {ρ : List Int} (h0 : ρ[0]? = some 0) {c z : Int} (h : z_v ρ 0 c z) : z = c := by
  obtain ⟨w, h1, h2⟩ := h
  rw [h0] at h1
  cases h1
  omega
theorem z_v.of0 {ρ : List Int} (h0 : ρ[0]? = some 0) (c : Int) : z_v ρ 0 c c := ⟨0, h0, by omega⟩
theorem z_m.mono {ρ ρ' : List Int} {ad ad' : List Nat} (h : ρ <+: ρ') (h2 : ad <+: ad') : ∀ {a : zV} {v : Value}, z_m ρ ad a v → z_m ρ' ad' a v
  | (0, x, c), v, hm => by
    obtain ⟨i, e, hv⟩ := hm
    exact ⟨i, e, hv.mono h⟩
  | (1, x, c), v, hm => by
    obtain ⟨i, e, hv⟩ := hm
    exact ⟨i, e, hv.mono h⟩
  | (2, k, _), v, hm => by
    obtain ⟨q, e, hv⟩ := hm
    exact ⟨q, z_pre h2 e, hv⟩
  | (_ + 3, _, _), v, hm => hm
theorem z_m.cat {ρ : List Int} {ad : List Nat} : ∀ {a : zV} {v : Value}, z_m ρ ad a v → (v.category == 2) = (a.1 == 1)
  | (0, x, c), v, hm => by
    obtain ⟨i, rfl, -⟩ := hm
    rfl
  | (1, x, c), v, hm => by
    obtain ⟨i, rfl, -⟩ := hm
    rfl
  | (2, k, _), v, hm => by
    obtain ⟨q, -, rfl⟩ := hm
    rfl
  | (n + 3, _, _), v, hm => by
    have e : v = .null := hm
    subst e
    rfl
def z_iv (ivs : List zI) (ρ : List Int) : Prop := z_F (fun b z => b.1 ≤ z ∧ z ≤ b.2) ivs ρ
def z_c (tys : List (ClassId × FieldType)) (ρ : List Int) (φ : List zP) (ad : List Nat) : zC → va_E → Prop
  | .inl (ci, fs), e => ∃ vs, e = .inr (ci, vs) ∧ z_F (z_m ρ ad) fs vs
  | .inr (.inl (t, n, w, lo, hi)), e => ∃ (cA : ClassId) (ty : FieldType), tys[t]? = some (cA, ty) ∧
      ((t ≠ 3 ∧ ∃ f : Nat → Int32, e = .inl (cA, n, .inl f) ∧ φ[w]? = some (.inl f) ∧ ∀ j, j < n → lo ≤ (f j).toInt ∧ (f j).toInt ≤ hi) ∨
       (t = 3 ∧ ∃ f : Nat → Int64, e = .inl (cA, n, .inr (.inl f)) ∧ φ[w]? = some (.inr f) ∧ ∀ j, j < n → lo ≤ (f j).toInt ∧ (f j).toInt ≤ hi))
  | .inr (.inr (t, es)), e => ∃ (cA : ClassId) (ty : FieldType) (f : Nat → Option Nat), tys[t]? = some (cA, ty) ∧ e = .inl (cA, es.length, .inr (.inr (.inr (.inr f)))) ∧ ∀ (j : Nat) (a : zV), es[j]? = some a → z_m ρ ad a (va_rf (f j))
theorem z_c.mono {tys : List (ClassId × FieldType)} {ρ ρ' : List Int} {φ φ' : List zP} {ad ad' : List Nat} (h : ρ <+: ρ') (h1 : φ <+: φ') (h2 : ad <+: ad') : ∀ {a : zC} {e : va_E}, z_c tys ρ φ ad a e → z_c tys ρ' φ' ad' a e
  | .inl (ci, fs), e, hc => by
    obtain ⟨vs, e1, hF⟩ := hc
    exact ⟨vs, e1, hF.mono (fun _ _ q => q.mono h h2)⟩
  | .inr (.inl (t, n, w, lo, hi)), e, hc => by
    obtain ⟨cA, ty, e1, ⟨e2, f, e3, e4, e5⟩ | ⟨e2, f, e3, e4, e5⟩⟩ := hc
    · exact ⟨cA, ty, e1, Or.inl ⟨e2, f, e3, z_pre h1 e4, e5⟩⟩
    · exact ⟨cA, ty, e1, Or.inr ⟨e2, f, e3, z_pre h1 e4, e5⟩⟩
  | .inr (.inr (t, es)), e, hc => by
    obtain ⟨cA, ty, f, e1, e2, e3⟩ := hc
    exact ⟨cA, ty, f, e1, e2, fun j a q => (e3 j a q).mono h h2⟩
/-- the addresses of a world -/
def z_ad (ws : va_W) : List Nat := ws.map (fun q => q.1)
def z_Lo (ρ : List Int) (ad : List Nat) (a : Nat × zV) (q : Nat × Value) : Prop := a.1 = q.1 ∧ z_m ρ ad a.2 q.2
def z_H (tys : List (ClassId × FieldType)) (ρ : List Int) (φ : List zP) (ad : List Nat) (a : zC) (q : Nat × va_E) : Prop := z_c tys ρ φ ad a q.2
/-- numbers that stay: the first symbol is 0 -/
def z_g (D : va_G) (tys : List (ClassId × FieldType)) (A : Nat → Prop) (H0 : Heap) (nL : Nat) (ρ0 : List Int) (φ0 : List zP) (ad0 : List Nat) (S : zS) (ρ : List Int) (φ : List zP) (ws : va_W) (lv : List (Nat × Value)) (st : List Value) (H : Heap) (locs : List Loc) (ls : Array Slot) : Prop :=
  (ρ0 <+: ρ ∧ φ0 <+: φ ∧ ad0 <+: z_ad ws ∧ ρ[0]? = some 0) ∧ z_iv S.1 ρ ∧ φ.length = S.2.1 ∧ z_F (z_Lo ρ (z_ad ws)) S.2.2.1 lv ∧ z_F (z_m ρ (z_ad ws)) S.2.2.2.1 st ∧ z_F (z_H tys ρ φ (z_ad ws)) S.2.2.2.2.1 ws ∧
  va_P D vwCl ws H ∧ va_D A ws ∧ va_S A H0 H locs ∧ lv_has ls nL lv
theorem z_iv.app {ivs : List zI} {ρ : List Int} {b : zI} {z : Int} (h : z_iv ivs ρ) (h1 : b.1 ≤ z) (h2 : z ≤ b.2) : z_iv (ivs ++ [b]) (ρ ++ [z]) := z_F.app (R := fun (b : zI) (z : Int) => b.1 ≤ z ∧ z ≤ b.2) (l2 := [b]) (k2 := [z]) ⟨⟨h1, h2⟩, trivial⟩ h
theorem z_iv.last {ivs : List zI} {ρ : List Int} (h : z_iv ivs ρ) (z : Int) : z_v (ρ ++ [z]) ivs.length 0 z := by
  have e := z_F.len h
  refine ⟨z, ?_, by omega⟩
  rw [e, List.getElem?_append_right (Nat.le_refl _), Nat.sub_self]
  rfl
theorem z_app_pre {α : Type} (l : List α) (t : List α) : l <+: l ++ t := ⟨t, rfl⟩
/-- a state as it was, with more symbols -/
theorem z_g.more {D : va_G} {tys : List (ClassId × FieldType)} {A : Nat → Prop} {H0 : Heap} {nL : Nat} {ρ0 : List Int} {φ0 : List zP} {ad0 : List Nat} {ivs ivs' : List zI} {nv : Nat} {lo : List (Nat × zV)} {sk : List zV} {hp : List zC} {nc ns : Nat} {ρ ρ' : List Int} {φ : List zP} {ws : va_W} {lv : List (Nat × Value)} {st : List Value} {H : Heap} {locs : List Loc} {ls : Array Slot}
    (h : z_g D tys A H0 nL ρ0 φ0 ad0 (ivs, nv, lo, sk, hp, nc, ns) ρ φ ws lv st H locs ls) (hp1 : ρ <+: ρ') (hiv : z_iv ivs' ρ') : z_g D tys A H0 nL ρ0 φ0 ad0 (ivs', nv, lo, sk, hp, nc, ns) ρ' φ ws lv st H locs ls := by
  obtain ⟨⟨a1, a2, a3, a4⟩, b1, b2, b3, b4, b5, b6, b7, b8, b9⟩ := h
  exact ⟨⟨a1.trans hp1, a2, a3, z_pre hp1 a4⟩, hiv, b2, b3.mono (fun _ _ q => ⟨q.1, q.2.mono hp1 (List.prefix_refl _)⟩), b4.mono (fun _ _ q => q.mono hp1 (List.prefix_refl _)), b5.mono (fun _ _ q => z_c.mono hp1 (List.prefix_refl _) (List.prefix_refl _) q), b6, b7, b8, b9⟩
end
section
/-! ===== numbers: bounds, results, what a branch tells ===== -/
def z_b (ivs : List zI) (x : Nat) (c : Int) : Option zI := match ivs[x]? with
  | some (lo, hi) => some (lo + c, hi + c)
  | none => none
theorem z_b_ok {ivs : List zI} {ρ : List Int} {x : Nat} {c z lo hi : Int} (h : z_iv ivs ρ) (hv : z_v ρ x c z) (hb : z_b ivs x c = some (lo, hi)) : lo ≤ z ∧ z ≤ hi := by
  obtain ⟨w, h1, h2⟩ := hv
  obtain ⟨b, h3, h4⟩ := z_F.get' h h1
  unfold z_b at hb
  rw [h3] at hb
  obtain ⟨l, u⟩ := b
  cases hb
  dsimp only at h4
  omega
def z_lim (t : Nat) : zI := match t with
  | 0 => (-2147483648, 2147483647)
  | _ => (-9223372036854775808, 9223372036854775807)
def z_fit (t : Nat) (lo hi : Int) : Bool := z_ile (z_lim t).1 lo && z_ile hi (z_lim t).2
def z_new (t : Nat) (lo hi : Int) (ivs : List zI) : zV × List zI := match z_ieq lo hi with
  | true => ((t, 0, lo), ivs)
  | false => ((t, ivs.length, 0), ivs ++ [(lo, hi)])
def z_top (t : Nat) (ivs : List zI) : zV × List zI := ((t, ivs.length, 0), ivs ++ [z_lim t])
def z_num (t : Nat) (lo hi : Int) (ivs : List zI) : zV × List zI := match z_fit t lo hi with
  | true => z_new t lo hi ivs
  | false => z_top t ivs
/-- a result: its value is z, under symbols that may be more -/
def z_R (t : Nat) (ρ : List Int) (out : zV × List zI) (z : Int) : Prop := out.1.1 = t ∧ ∃ ρ', ρ <+: ρ' ∧ z_iv out.2 ρ' ∧ z_v ρ' out.1.2.1 out.1.2.2 z
theorem z_new_ok {t : Nat} {lo hi z : Int} {ivs : List zI} {ρ : List Int} (h : z_iv ivs ρ) (h0 : ρ[0]? = some 0) (h1 : lo ≤ z) (h2 : z ≤ hi) : z_R t ρ (z_new t lo hi ivs) z := by
  unfold z_new
  split
  · rename_i e
    have e := z_ieq_ok e
    have e2 : z = lo := by omega
    exact ⟨rfl, ρ, List.prefix_refl _, h, by rw [e2]; exact z_v.of0 h0 lo⟩
  · exact ⟨rfl, ρ ++ [z], z_app_pre _ _, h.app (b := (lo, hi)) h1 h2, h.last z⟩
theorem z_top_ok {t : Nat} {z : Int} {ivs : List zI} {ρ : List Int} (h : z_iv ivs ρ) (h1 : (z_lim t).1 ≤ z) (h2 : z ≤ (z_lim t).2) : z_R t ρ (z_top t ivs) z := ⟨rfl, ρ ++ [z], z_app_pre _ _, h.app h1 h2, h.last z⟩
theorem z_num_ok {t : Nat} {lo hi z : Int} {ivs : List zI} {ρ : List Int} (h : z_iv ivs ρ) (h0 : ρ[0]? = some 0) (h1 : (z_lim t).1 ≤ z) (h2 : z ≤ (z_lim t).2) (h3 : z_fit t lo hi = true → lo ≤ z ∧ z ≤ hi) : z_R t ρ (z_num t lo hi ivs) z := by
  unfold z_num
  split
  · rename_i e
    exact z_new_ok h h0 (h3 e).1 (h3 e).2
  · exact z_top_ok h h1 h2
theorem z_fit_ok {t : Nat} {lo hi : Int} (h : z_fit t lo hi = true) : (z_lim t).1 ≤ lo ∧ hi ≤ (z_lim t).2 := ⟨z_ile_ok (z_and h).1, z_ile_ok (z_and h).2⟩
/-- a value that is a symbol and a number already -/
theorem z_R.same {t : Nat} {ρ : List Int} {ivs : List zI} {x : Nat} {c z : Int} (h : z_iv ivs ρ) (hv : z_v ρ x c z) : z_R t ρ ((t, x, c), ivs) z := ⟨rfl, ρ, List.prefix_refl _, h, hv⟩
theorem z_v.add {ρ : List Int} {x : Nat} {c z : Int} (h : z_v ρ x c z) (d : Int) : z_v ρ x (c + d) (z + d) := by
  obtain ⟨w, h1, h2⟩ := h
  exact ⟨w, h1, by omega⟩
def z_add (t : Nat) (ivs : List zI) (x : Nat) (c : Int) (y : Nat) (d : Int) : Option (zV × List zI) := match z_b ivs x c, z_b ivs y d with
  | some (l1, h1), some (l2, h2) => match z_fit t (l1 + l2) (h1 + h2) with
    | true => match Nat.beq y 0, Nat.beq x 0 with
      | true, _ => some ((t, x, c + d), ivs)
      | false, true => some ((t, y, d + c), ivs)
      | false, false => some (z_new t (l1 + l2) (h1 + h2) ivs)
    | false => some (z_top t ivs)
  | _, _ => none
theorem z_add_ok {t : Nat} {ivs : List zI} {ρ : List Int} {x y : Nat} {c d z1 z2 r : Int} {out : zV × List zI} (h : z_iv ivs ρ) (h0 : ρ[0]? = some 0) (hv1 : z_v ρ x c z1) (hv2 : z_v ρ y d z2) (hr : (z_lim t).1 ≤ z1 + z2 → z1 + z2 ≤ (z_lim t).2 → r = z1 + z2) (hl : (z_lim t).1 ≤ r ∧ r ≤ (z_lim t).2) (e : z_add t ivs x c y d = some out) : z_R t ρ out r := by
  unfold z_add at e
  split at e
  · rename_i l1 h1 l2 h2 e1 e2
    have b1 := z_b_ok h hv1 e1
    have b2 := z_b_ok h hv2 e2
    split at e
    · rename_i ef
      have f := z_fit_ok ef
      have er : r = z1 + z2 := hr (by omega) (by omega)
      split at e
      · rename_i ey
        have ey := z_beq ey
        subst ey
        cases e
        have := z_v.const h0 hv2
        subst this
        rw [er]
        exact z_R.same h (hv1.add _)
      · rename_i ex
        have ex := z_beq ex
        subst ex
        cases e
        have := z_v.const h0 hv1
        subst this
        rw [er, Int.add_comm z1 z2]
        exact z_R.same h (hv2.add _)
      · cases e
        exact z_new_ok h h0 (by omega) (by omega)
    · cases e
      exact z_top_ok h hl.1 hl.2
  · cases e
def z_sub (t : Nat) (ivs : List zI) (x : Nat) (c : Int) (y : Nat) (d : Int) : Option (zV × List zI) := match z_b ivs x c, z_b ivs y d with
  | some (l1, h1), some (l2, h2) => match z_fit t (l1 - h2) (h1 - l2) with
    | true => match Nat.beq y 0 with
      | true => some ((t, x, c + (0 - d)), ivs)
      | false => some (z_new t (l1 - h2) (h1 - l2) ivs)
    | false => some (z_top t ivs)
  | _, _ => none
theorem z_sub_ok {t : Nat} {ivs : List zI} {ρ : List Int} {x y : Nat} {c d z1 z2 r : Int} {out : zV × List zI} (h : z_iv ivs ρ) (h0 : ρ[0]? = some 0) (hv1 : z_v ρ x c z1) (hv2 : z_v ρ y d z2) (hr : (z_lim t).1 ≤ z1 - z2 → z1 - z2 ≤ (z_lim t).2 → r = z1 - z2) (hl : (z_lim t).1 ≤ r ∧ r ≤ (z_lim t).2) (e : z_sub t ivs x c y d = some out) : z_R t ρ out r := by
  unfold z_sub at e
  split at e
  · rename_i l1 h1 l2 h2 e1 e2
    have b1 := z_b_ok h hv1 e1
    have b2 := z_b_ok h hv2 e2
    split at e
    · rename_i ef
      have f := z_fit_ok ef
      have er : r = z1 - z2 := hr (by omega) (by omega)
      split at e
      · rename_i ey
        have ey := z_beq ey
        subst ey
        cases e
        have := z_v.const h0 hv2
        subst this
        rw [er, show z1 - z2 = z1 + (0 - z2) by omega]
        exact z_R.same h (hv1.add _)
      · cases e
        exact z_new_ok h h0 (by omega) (by omega)
    · cases e
      exact z_top_ok h hl.1 hl.2
  · cases e
theorem z_mul1 {l h z w : Int} (h1 : l ≤ z) (h2 : z ≤ h) : (l * w ≤ z * w ∨ h * w ≤ z * w) ∧ (z * w ≤ l * w ∨ z * w ≤ h * w) := by
  by_cases hw : 0 ≤ w
  · exact ⟨Or.inl (Int.mul_le_mul_of_nonneg_right h1 hw), Or.inr (Int.mul_le_mul_of_nonneg_right h2 hw)⟩
  · have hw : w ≤ 0 := by omega
    exact ⟨Or.inr (Int.mul_le_mul_of_nonpos_right h2 hw), Or.inl (Int.mul_le_mul_of_nonpos_right h1 hw)⟩
theorem z_mul2 {l1 h1 l2 h2 z1 z2 : Int} (a1 : l1 ≤ z1) (a2 : z1 ≤ h1) (b1 : l2 ≤ z2) (b2 : z2 ≤ h2) :
    z_min (z_min (l1 * l2) (l1 * h2)) (z_min (h1 * l2) (h1 * h2)) ≤ z1 * z2 ∧ z1 * z2 ≤ z_max (z_max (l1 * l2) (l1 * h2)) (z_max (h1 * l2) (h1 * h2)) := by
  have p1 := z_mul1 (w := z2) a1 a2
  have q1 := z_mul1 (w := l1) b1 b2
  have q2 := z_mul1 (w := h1) b1 b2
  rw [Int.mul_comm l2 l1, Int.mul_comm z2 l1, Int.mul_comm h2 l1] at q1
  rw [Int.mul_comm l2 h1, Int.mul_comm z2 h1, Int.mul_comm h2 h1] at q2
  have m1 := z_min_l (z_min (l1 * l2) (l1 * h2)) (z_min (h1 * l2) (h1 * h2))
  have m2 := z_min_r (z_min (l1 * l2) (l1 * h2)) (z_min (h1 * l2) (h1 * h2))
  have m3 := z_min_l (l1 * l2) (l1 * h2)
  have m4 := z_min_r (l1 * l2) (l1 * h2)
  have m5 := z_min_l (h1 * l2) (h1 * h2)
  have m6 := z_min_r (h1 * l2) (h1 * h2)
  have n1 := z_max_l (z_max (l1 * l2) (l1 * h2)) (z_max (h1 * l2) (h1 * h2))
  have n2 := z_max_r (z_max (l1 * l2) (l1 * h2)) (z_max (h1 * l2) (h1 * h2))
  have n3 := z_max_l (l1 * l2) (l1 * h2)
  have n4 := z_max_r (l1 * l2) (l1 * h2)
  have n5 := z_max_l (h1 * l2) (h1 * h2)
  have n6 := z_max_r (h1 * l2) (h1 * h2)
  refine ⟨?_, ?_⟩
  · rcases p1.1 with a | a
    · rcases q1.1 with b | b <;> omega
    · rcases q2.1 with b | b <;> omega
  · rcases p1.2 with a | a
    · rcases q1.2 with b | b <;> omega
    · rcases q2.2 with b | b <;> omega
def z_mul (t : Nat) (ivs : List zI) (x : Nat) (c : Int) (y : Nat) (d : Int) : Option (zV × List zI) := match z_b ivs x c, z_b ivs y d with
  | some (l1, h1), some (l2, h2) => some (z_num t (z_min (z_min (l1 * l2) (l1 * h2)) (z_min (h1 * l2) (h1 * h2))) (z_max (z_max (l1 * l2) (l1 * h2)) (z_max (h1 * l2) (h1 * h2))) ivs)
  | _, _ => none
theorem z_mul_ok {t : Nat} {ivs : List zI} {ρ : List Int} {x y : Nat} {c d z1 z2 r : Int} {out : zV × List zI} (h : z_iv ivs ρ) (h0 : ρ[0]? = some 0) (hv1 : z_v ρ x c z1) (hv2 : z_v ρ y d z2) (hr : (z_lim t).1 ≤ z1 * z2 → z1 * z2 ≤ (z_lim t).2 → r = z1 * z2) (hl : (z_lim t).1 ≤ r ∧ r ≤ (z_lim t).2) (e : z_mul t ivs x c y d = some out) : z_R t ρ out r := by
  unfold z_mul at e
  split at e
  · rename_i l1 h1 l2 h2 e1 e2
    have b1 := z_b_ok h hv1 e1
    have b2 := z_b_ok h hv2 e2
    have m := z_mul2 b1.1 b1.2 b2.1 b2.2
    cases e
    refine z_num_ok h h0 hl.1 hl.2 (fun ef => ?_)
    have f := z_fit_ok ef
    have er : r = z1 * z2 := hr (by omega) (by omega)
    rw [er]
    exact m
  · cases e
/-! what a branch tells -/
def z_cut (ivs : List zI) (x : Nat) (lo hi : Int) : Option (List zI) := match ivs[x]? with
  | some (l, h) => match z_ile (z_max l lo) (z_min h hi) with
    | true => some (ivs.set x (z_max l lo, z_min h hi))
    | false => none
  | none => none
theorem z_cut_ok {ivs : List zI} {ρ : List Int} {x : Nat} {lo hi w : Int} (h : z_iv ivs ρ) (hw : ρ[x]? = some w) (h1 : lo ≤ w) (h2 : w ≤ hi) : ∃ i, z_cut ivs x lo hi = some i ∧ z_iv i ρ := by
  obtain ⟨⟨l, u⟩, h3, h4⟩ := z_F.get' h hw
  dsimp only at h4
  unfold z_cut
  rw [h3]
  have a1 : z_max l lo ≤ w := z_max_ge h4.1 h1
  have a2 : w ≤ z_min u hi := z_min_le h4.2 h2
  dsimp only
  split
  · refine ⟨_, rfl, ?_⟩
    have k := z_F.set (R := fun (b : zI) (z : Int) => b.1 ≤ z ∧ z ≤ b.2) (a := (z_max l lo, z_min u hi)) (b := w) ⟨a1, a2⟩ h x
    have e : ρ.set x w = ρ := by
      apply List.ext_getElem?
      intro i
      by_cases hi : x = i
      · subst hi
        rw [List.getElem?_set_self (List.getElem?_eq_some_iff.mp hw).1, hw]
      · rw [List.getElem?_set_ne hi]
    rw [e] at k
    exact k
  · rename_i e
    have := z_ile_no e
    omega
/-- w_x + c ≤ w_y + d + k -/
def z_sle (ivs : List zI) (x : Nat) (c : Int) (y : Nat) (d k : Int) : List (List zI) := match Nat.beq x y with
  | true => match z_ile c (d + k) with
    | true => [ivs]
    | false => []
  | false => match ivs[x]?, ivs[y]? with
    | some (lx, hx), some (ly, hy) => match z_cut ivs x lx (hy + d + k - c) with
      | none => []
      | some i1 => match z_cut i1 y (lx + c - d - k) hy with
        | none => []
        | some i2 => [i2]
    | _, _ => [ivs]
theorem z_sle_ok {ivs : List zI} {ρ : List Int} {x y : Nat} {c d k X Y : Int} (h : z_iv ivs ρ) (hx : z_v ρ x c X) (hy : z_v ρ y d Y) (hle : X ≤ Y + k) : ∃ i ∈ z_sle ivs x c y d k, z_iv i ρ := by
  obtain ⟨wx, h1, h2⟩ := hx
  obtain ⟨wy, h3, h4⟩ := hy
  unfold z_sle
  split
  · rename_i e
    have e := z_beq e
    subst e
    rw [h1] at h3
    cases h3
    split
    · exact ⟨ivs, List.mem_singleton.mpr rfl, h⟩
    · rename_i e
      have := z_ile_no e
      omega
  · split
    · rename_i lx hx ly hy e1 e2
      obtain ⟨b1, g1, g2⟩ := z_F.get' h h1
      obtain ⟨b2, g3, g4⟩ := z_F.get' h h3
      rw [e1] at g1
      rw [e2] at g3
      cases g1
      cases g3
      dsimp only at g2 g4
      obtain ⟨i1, k1, k2⟩ := z_cut_ok (lo := lx) (hi := hy + d + k - c) h h1 (by omega) (by omega)
      obtain ⟨i2, k3, k4⟩ := z_cut_ok (lo := lx + c - d - k) (hi := hy) k2 h3 (by omega) (by omega)
      rw [k1]
      dsimp only
      rw [k3]
      exact ⟨i2, List.mem_singleton.mpr rfl, k4⟩
    · exact ⟨ivs, List.mem_singleton.mpr rfl, h⟩
def z_hd (cd : Jvm.ClassFile.Cond) (X Y : Int) : Prop := match cd with
  | .eq => X = Y
  | .ne => X ≠ Y
  | .lt => X < Y
  | .ge => Y ≤ X
  | .gt => Y < X
  | .le => X ≤ Y
def z_neg (cd : Jvm.ClassFile.Cond) : Jvm.ClassFile.Cond := match cd with
  | .eq => .ne
  | .ne => .eq
  | .lt => .ge
  | .ge => .lt
  | .gt => .le
  | .le => .gt
theorem z_hd_or (cd : Jvm.ClassFile.Cond) (X Y : Int) : z_hd cd X Y ∨ z_hd (z_neg cd) X Y := by
  cases cd <;> simp only [z_hd, z_neg] <;> omega
def z_asm (both : Bool) (cd : Jvm.ClassFile.Cond) (ivs : List zI) (x : Nat) (c : Int) (y : Nat) (d : Int) : List (List zI) := match cd with
  | .le => z_sle ivs x c y d 0
  | .lt => z_sle ivs x c y d (-1)
  | .ge => z_sle ivs y d x c 0
  | .gt => z_sle ivs y d x c (-1)
  | .eq => (z_sle ivs x c y d 0).flatMap (fun i => z_sle i y d x c 0)
  | .ne => match z_sle ivs x c y d (-1), z_sle ivs y d x c (-1) with
    | [], b => b
    | a, [] => a
    | a, b => match both with
      | true => a ++ b
      | false => [ivs]
theorem z_asm_ok {both : Bool} {cd : Jvm.ClassFile.Cond} {ivs : List zI} {ρ : List Int} {x y : Nat} {c d X Y : Int} (h : z_iv ivs ρ) (hx : z_v ρ x c X) (hy : z_v ρ y d Y) (hc : z_hd cd X Y) : ∃ i ∈ z_asm both cd ivs x c y d, z_iv i ρ := by
  cases cd with
  | le => exact z_sle_ok h hx hy (by have : X ≤ Y := hc; omega)
  | lt => exact z_sle_ok h hx hy (by have : X < Y := hc; omega)
  | ge => exact z_sle_ok h hy hx (by have : Y ≤ X := hc; omega)
  | gt => exact z_sle_ok h hy hx (by have : Y < X := hc; omega)
  | eq =>
    have e : X = Y := hc
    obtain ⟨i, h1, h2⟩ := z_sle_ok (k := 0) h hx hy (by omega)
    obtain ⟨j, h3, h4⟩ := z_sle_ok (k := 0) h2 hy hx (by omega)
    exact ⟨j, List.mem_flatMap.mpr ⟨i, h1, h3⟩, h4⟩
  | ne =>
    have e : X ≠ Y := hc
    unfold z_asm
    dsimp only
    rcases Int.lt_or_gt_of_ne e with q | q
    · obtain ⟨i, h1, h2⟩ := z_sle_ok (k := -1) h hx hy (by omega)
      split
      · rename_i e1
        rw [e1] at h1
        cases h1
      · exact ⟨i, h1, h2⟩
      · split
        · exact ⟨i, List.mem_append_left _ h1, h2⟩
        · exact ⟨ivs, List.mem_singleton.mpr rfl, h⟩
    · obtain ⟨i, h1, h2⟩ := z_sle_ok (k := -1) h hy hx (by omega)
      split
      · exact ⟨i, h1, h2⟩
      · rename_i e1 _
        rw [e1] at h1
        cases h1
      · split
        · exact ⟨i, List.mem_append_right _ h1, h2⟩
        · exact ⟨ivs, List.mem_singleton.mpr rfl, h⟩
end
section
/-! ===== the checker's steps: plain instructions ===== -/
def z_K (p : Program) (l : Launch) (e : Env) (R : Room) (s : State) (m : MethodId) (args : Array Value) (below : List Frame) (meth : Method) (c : Code) (Q : State → Prop) (D : va_G) (tys : List (ClassId × FieldType)) (A : Nat → Prop) (H0 : Heap) (nL : Nat) (ρ0 : List Int) (φ0 : List zP) (ad0 : List Nat) (pc : Nat) (S : zS) : Prop :=
  ∀ (ρ : List Int) (φ : List zP) (ws : va_W) (lv : List (Nat × Value)) (st : List Value) (H : Heap) (locs : List Loc) (ls : Array Slot), z_g D tys A H0 nL ρ0 φ0 ad0 S ρ φ ws lv st H locs ls → W p l e R s m args below meth c H locs S.2.2.2.2.2.1 S.2.2.2.2.2.2 Q (F0 m pc ls st)
abbrev zQ : Type := Option (List (Nat × zS))
theorem z_F.c1 {α β : Type} {R : α → β → Prop} {a : α} {l : List α} : ∀ {k : List β}, z_F R (a :: l) k → ∃ b k', k = b :: k' ∧ R a b ∧ z_F R l k'
  | [], h => h.elim
  | b :: k', h => ⟨b, k', rfl, h.1, h.2⟩
def z_lk (lo : List (Nat × zV)) (i : Nat) : Option zV := match lo with
  | [] => none
  | (j, a) :: lo => match Nat.beq j i with
    | true => some a
    | false => z_lk lo i
theorem z_lk_ok {ρ : List Int} {ad : List Nat} {i : Nat} {a : zV} : ∀ {lo : List (Nat × zV)} {lv : List (Nat × Value)}, z_F (z_Lo ρ ad) lo lv → z_lk lo i = some a → ∃ (k : Nat) (v : Value), lv[k]? = some (i, v) ∧ z_m ρ ad a v
  | [], _, _, h => by cases h
  | (j, b) :: lo, [], hF, _ => hF.elim
  | (j, b) :: lo, q :: lv, hF, h => by
    unfold z_lk at h
    split at h
    · rename_i e
      have e := z_beq e
      subst e
      cases h
      obtain ⟨⟨h1, h2⟩, -⟩ := hF
      obtain ⟨q1, q2⟩ := q
      dsimp only at h1 h2
      subst h1
      exact ⟨0, q2, rfl, h2⟩
    · obtain ⟨k, v, h1, h2⟩ := z_lk_ok hF.2 h
      exact ⟨k + 1, v, by rw [List.getElem?_cons_succ]; exact h1, h2⟩
def z_st1 (lo : List (Nat × zV)) (i : Nat) (a : zV) : List (Nat × zV) := (i, a) :: lo.filter (fun q => !(q.1 == i) && !(q.1 + 1 == i && q.2.1 == 1))
def z_st2 (lo : List (Nat × zV)) (i : Nat) (a : zV) : List (Nat × zV) := (i, a) :: lo.filter (fun q => !(q.1 == i) && (!(q.1 == i + 1) && !(q.1 + 1 == i && q.2.1 == 1)))
theorem z_st1_ok {ρ : List Int} {ad : List Nat} {i : Nat} {a : zV} {v : Value} {lo : List (Nat × zV)} {lv : List (Nat × Value)} (hF : z_F (z_Lo ρ ad) lo lv) (hv : z_m ρ ad a v) : z_F (z_Lo ρ ad) (z_st1 lo i a) ((i, v) :: lv.filter (fun q => !(q.1 == i) && !(q.1 + 1 == i && q.2.category == 2))) := by
  refine ⟨⟨rfl, hv⟩, z_F.filter (fun x y h => ?_) hF⟩
  obtain ⟨h1, h2⟩ := h
  rw [h1, z_m.cat h2]
theorem z_st2_ok {ρ : List Int} {ad : List Nat} {i : Nat} {a : zV} {v : Value} {lo : List (Nat × zV)} {lv : List (Nat × Value)} (hF : z_F (z_Lo ρ ad) lo lv) (hv : z_m ρ ad a v) : z_F (z_Lo ρ ad) (z_st2 lo i a) ((i, v) :: lv.filter (fun q => !(q.1 == i) && (!(q.1 == i + 1) && !(q.1 + 1 == i && q.2.category == 2)))) := by
  refine ⟨⟨rfl, hv⟩, z_F.filter (fun x y h => ?_) hF⟩
  obtain ⟨h1, h2⟩ := h
  rw [h1, z_m.cat h2]
section ZA
variable {p : Program} {l : Launch} {e : Env} {R : Room} {s : State} {m : MethodId} {args : Array Value} {below : List Frame} {meth : Method} {c : Code} {Q : State → Prop} {D : va_G} {tys : List (ClassId × FieldType)} {A : Nat → Prop} {H0 : Heap} {nL : Nat} {ρ0 : List Int} {φ0 : List zP} {ad0 : List Nat}
variable {cc : ByteArray} {pc : Nat} {ivs : List zI} {nv : Nat} {lo : List (Nat × zV)} {sk : List zV} {hp : List zC} {nc ns : Nat} {q : List (Nat × zS)}
variable {ρ : List Int} {φ : List zP} {ws : va_W} {lv : List (Nat × Value)} {st st' : List Value} {H : Heap} {locs : List Loc} {ls : Array Slot} {sk' : List zV}
theorem z_g.stk (h : z_g D tys A H0 nL ρ0 φ0 ad0 (ivs, nv, lo, sk, hp, nc, ns) ρ φ ws lv st H locs ls) (hs : z_F (z_m ρ (z_ad ws)) sk' st') : z_g D tys A H0 nL ρ0 φ0 ad0 (ivs, nv, lo, sk', hp, nc, ns) ρ φ ws lv st' H locs ls := by
  obtain ⟨a, b1, b2, b3, b4, b5, b6⟩ := h
  exact ⟨a, b1, b2, b3, hs, b5, b6⟩
theorem z_g.zero {S : zS} (h : z_g D tys A H0 nL ρ0 φ0 ad0 S ρ φ ws lv st H locs ls) : ρ[0]? = some 0 := h.1.2.2.2
theorem z_g.iv (h : z_g D tys A H0 nL ρ0 φ0 ad0 (ivs, nv, lo, sk, hp, nc, ns) ρ φ ws lv st H locs ls) : z_iv ivs ρ := h.2.1
theorem z_g.lo (h : z_g D tys A H0 nL ρ0 φ0 ad0 (ivs, nv, lo, sk, hp, nc, ns) ρ φ ws lv st H locs ls) : z_F (z_Lo ρ (z_ad ws)) lo lv := h.2.2.2.1
theorem z_g.sk (h : z_g D tys A H0 nL ρ0 φ0 ad0 (ivs, nv, lo, sk, hp, nc, ns) ρ φ ws lv st H locs ls) : z_F (z_m ρ (z_ad ws)) sk st := h.2.2.2.2.1
theorem z_g.hp (h : z_g D tys A H0 nL ρ0 φ0 ad0 (ivs, nv, lo, sk, hp, nc, ns) ρ φ ws lv st H locs ls) : z_F (z_H tys ρ φ (z_ad ws)) hp ws := h.2.2.2.2.2.1
theorem z_g.P {S : zS} (h : z_g D tys A H0 nL ρ0 φ0 ad0 S ρ φ ws lv st H locs ls) : va_P D vwCl ws H := h.2.2.2.2.2.2.1
theorem z_g.D {S : zS} (h : z_g D tys A H0 nL ρ0 φ0 ad0 S ρ φ ws lv st H locs ls) : va_D A ws := h.2.2.2.2.2.2.2.1
theorem z_g.S {S : zS} (h : z_g D tys A H0 nL ρ0 φ0 ad0 S ρ φ ws lv st H locs ls) : va_S A H0 H locs := h.2.2.2.2.2.2.2.2.1
theorem z_g.L {S : zS} (h : z_g D tys A H0 nL ρ0 φ0 ad0 S ρ φ ws lv st H locs ls) : lv_has ls nL lv := h.2.2.2.2.2.2.2.2.2
theorem z_g.nv (h : z_g D tys A H0 nL ρ0 φ0 ad0 (ivs, nv, lo, sk, hp, nc, ns) ρ φ ws lv st H locs ls) : φ.length = nv := h.2.2.1
theorem z_g.loc {lo' : List (Nat × zV)} {lv' : List (Nat × Value)} {ls' : Array Slot} (h : z_g D tys A H0 nL ρ0 φ0 ad0 (ivs, nv, lo, sk, hp, nc, ns) ρ φ ws lv st H locs ls) (hs : z_F (z_Lo ρ (z_ad ws)) lo' lv') (hl : lv_has ls' nL lv') : z_g D tys A H0 nL ρ0 φ0 ad0 (ivs, nv, lo', sk, hp, nc, ns) ρ φ ws lv' st H locs ls' := by
  obtain ⟨a, b1, b2, b3, b4, b5, b6, b7, b8, b9⟩ := h
  exact ⟨a, b1, b2, hs, b4, b5, b6, b7, b8, hl⟩
/-- constants -/
def z_psh (a : zV) (pc : Nat) (ivs : List zI) (nv : Nat) (lo : List (Nat × zV)) (sk : List zV) (hp : List zC) (nc ns : Nat) : zQ := some [(pc, (ivs, nv, lo, a :: sk, hp, nc, ns))]
theorem zs_psh {a : zV} {n : Nat} {v : Value} (hv : ∀ ρ : List Int, ρ[0]? = some 0 → ∀ ad, z_m ρ ad a v) (row : ∀ (H : Heap) (locs : List Loc) (ls : Array Slot) (rest : List Value), W p l e R s m args below meth c H locs nc ns Q (F0 m n ls (v :: rest)) → W p l e R s m args below meth c H locs nc ns Q (F0 m pc ls rest))
    (h : z_psh a n ivs nv lo sk hp nc ns = some q) (k : ∀ z ∈ q, z_K p l e R s m args below meth c Q D tys A H0 nL ρ0 φ0 ad0 z.1 z.2) : z_K p l e R s m args below meth c Q D tys A H0 nL ρ0 φ0 ad0 pc (ivs, nv, lo, sk, hp, nc, ns) := by
  cases h
  intro ρ φ ws lv st H locs ls hg
  exact row H locs ls st (k _ (List.mem_singleton.mpr rfl) ρ φ ws lv (v :: st) H locs ls (hg.stk ⟨hv ρ hg.zero _, hg.sk⟩))
/-- a local's value -/
def z_ld (t : Nat) (i : Nat) (pc : Nat) (ivs : List zI) (nv : Nat) (lo : List (Nat × zV)) (sk : List zV) (hp : List zC) (nc ns : Nat) : zQ := match z_lk lo i with
  | some a => match Nat.beq a.1 t with
    | true => some [(pc, (ivs, nv, lo, a :: sk, hp, nc, ns))]
    | false => none
  | none => none
theorem zs_ld {t i n : Nat} (row : ∀ (H : Heap) (locs : List Loc) (ls : Array Slot) (rest : List Value) (v : Value), (∃ ρ ad x y, z_m ρ ad (t, x, y) v) → ls[i]? = some (.val v) → W p l e R s m args below meth c H locs nc ns Q (F0 m n ls (v :: rest)) → W p l e R s m args below meth c H locs nc ns Q (F0 m pc ls rest))
    (h : z_ld t i n ivs nv lo sk hp nc ns = some q) (k : ∀ z ∈ q, z_K p l e R s m args below meth c Q D tys A H0 nL ρ0 φ0 ad0 z.1 z.2) : z_K p l e R s m args below meth c Q D tys A H0 nL ρ0 φ0 ad0 pc (ivs, nv, lo, sk, hp, nc, ns) := by
  unfold z_ld at h
  split at h
  · rename_i a ea
    split at h
    · rename_i et
      have et := z_beq et
      cases h
      intro ρ φ ws lv st H locs ls hg
      obtain ⟨kk, v, h1, h2⟩ := z_lk_ok hg.lo ea
      refine row H locs ls st v ?_ (lv_at hg.L kk h1) (k _ (List.mem_singleton.mpr rfl) ρ φ ws lv (v :: st) H locs ls (hg.stk ⟨h2, hg.sk⟩))
      subst et
      exact ⟨ρ, _, a.2.1, a.2.2, h2⟩
    · cases h
  · cases h
/-- a store of one word -/
def z_sto (t : Nat) (nL : Nat) (i : Nat) (pc : Nat) (ivs : List zI) (nv : Nat) (lo : List (Nat × zV)) (sk : List zV) (hp : List zC) (nc ns : Nat) : zQ := match sk with
  | a :: sk => match Nat.beq a.1 t && Nat.ble (i + 1) nL with
    | true => some [(pc, (ivs, nv, z_st1 lo i a, sk, hp, nc, ns))]
    | false => none
  | [] => none
theorem zs_sto {t i n : Nat} (row : ∀ (H : Heap) (locs : List Loc) (ls : Array Slot) (rest : List Value) (v : Value) (lv : List (Nat × Value)), (∃ ρ ad x y, z_m ρ ad (t, x, y) v) → lv_has ls nL lv → i < nL → (∀ ls' : Array Slot, lv_has ls' nL ((i, v) :: lv.filter (fun q => !(q.1 == i) && !(q.1 + 1 == i && q.2.category == 2))) → W p l e R s m args below meth c H locs nc ns Q (F0 m n ls' rest)) → W p l e R s m args below meth c H locs nc ns Q (F0 m pc ls (v :: rest)))
    (h : z_sto t nL i n ivs nv lo sk hp nc ns = some q) (k : ∀ z ∈ q, z_K p l e R s m args below meth c Q D tys A H0 nL ρ0 φ0 ad0 z.1 z.2) : z_K p l e R s m args below meth c Q D tys A H0 nL ρ0 φ0 ad0 pc (ivs, nv, lo, sk, hp, nc, ns) := by
  unfold z_sto at h
  split at h
  · rename_i a sk
    split at h
    · rename_i et
      have e1 := z_beq (z_and et).1
      have e2 := Nat.le_of_ble_eq_true (z_and et).2
      cases h
      intro ρ φ ws lv st H locs ls hg
      obtain ⟨v, st, rfl, hv, hs⟩ := hg.sk.c1
      refine row H locs ls st v lv ?_ hg.L e2 (fun ls' hl => k _ (List.mem_singleton.mpr rfl) ρ φ ws _ st H locs ls' ((hg.stk hs).loc (z_st1_ok hg.lo hv) hl))
      subst e1
      exact ⟨ρ, _, a.2.1, a.2.2, hv⟩
    · cases h
  · cases h
/-- a store of a long -/
def z_sto2 (nL : Nat) (i : Nat) (pc : Nat) (ivs : List zI) (nv : Nat) (lo : List (Nat × zV)) (sk : List zV) (hp : List zC) (nc ns : Nat) : zQ := match sk with
  | a :: sk => match Nat.beq a.1 1 && Nat.ble (i + 2) nL with
    | true => some [(pc, (ivs, nv, z_st2 lo i a, sk, hp, nc, ns))]
    | false => none
  | [] => none
theorem zs_sto2 {i n : Nat} (row : ∀ (H : Heap) (locs : List Loc) (ls : Array Slot) (rest : List Value) (v : Int64) (lv : List (Nat × Value)), lv_has ls nL lv → i + 1 < nL → (∀ ls' : Array Slot, lv_has ls' nL ((i, .long v) :: lv.filter (fun q => !(q.1 == i) && (!(q.1 == i + 1) && !(q.1 + 1 == i && q.2.category == 2)))) → W p l e R s m args below meth c H locs nc ns Q (F0 m n ls' rest)) → W p l e R s m args below meth c H locs nc ns Q (F0 m pc ls (.long v :: rest)))
    (h : z_sto2 nL i n ivs nv lo sk hp nc ns = some q) (k : ∀ z ∈ q, z_K p l e R s m args below meth c Q D tys A H0 nL ρ0 φ0 ad0 z.1 z.2) : z_K p l e R s m args below meth c Q D tys A H0 nL ρ0 φ0 ad0 pc (ivs, nv, lo, sk, hp, nc, ns) := by
  unfold z_sto2 at h
  split at h
  · rename_i a sk
    obtain ⟨t, x, y⟩ := a
    split at h
    · rename_i et
      have e1 : t = 1 := z_beq (z_and et).1
      have e2 := Nat.le_of_ble_eq_true (z_and et).2
      subst e1
      cases h
      intro ρ φ ws lv st H locs ls hg
      obtain ⟨v, st, rfl, hv, hs⟩ := hg.sk.c1
      obtain ⟨i64, rfl, -⟩ := id hv
      exact row H locs ls st i64 lv hg.L (by omega) (fun ls' hl => k _ (List.mem_singleton.mpr rfl) ρ φ ws _ st H locs ls' ((hg.stk hs).loc (z_st2_ok hg.lo hv) hl))
    · cases h
  · cases h
/-- iinc -/
def z_inc (nL : Nat) (i : Nat) (n : Int) (pc : Nat) (ivs : List zI) (nv : Nat) (lo : List (Nat × zV)) (sk : List zV) (hp : List zC) (nc ns : Nat) : zQ := match z_lk lo i with
  | some (0, x, c) => match Nat.ble (i + 1) nL with
    | true => match z_add 0 ivs x c 0 n with
      | some (r, ivs') => some [(pc, (ivs', nv, z_st1 lo i r, sk, hp, nc, ns))]
      | none => none
    | false => none
  | _ => none
theorem z_m.ofR {ρ : List Int} {ad : List Nat} {out : zV × List zI} {i : Int32} {ρ' : List Int} (h1 : out.1.1 = 0) (h2 : z_v ρ' out.1.2.1 out.1.2.2 i.toInt) : z_m ρ' ad out.1 (.int i) := by
  obtain ⟨⟨t, x, y⟩, o⟩ := out
  dsimp only at h1 h2
  subst h1
  exact ⟨i, rfl, h2⟩
theorem z_m.ofRL {ρ : List Int} {ad : List Nat} {out : zV × List zI} {i : Int64} {ρ' : List Int} (h1 : out.1.1 = 1) (h2 : z_v ρ' out.1.2.1 out.1.2.2 i.toInt) : z_m ρ' ad out.1 (.long i) := by
  obtain ⟨⟨t, x, y⟩, o⟩ := out
  dsimp only at h1 h2
  subst h1
  exact ⟨i, rfl, h2⟩
theorem z_rng (x : Int32) : (z_lim 0).1 ≤ x.toInt ∧ x.toInt ≤ (z_lim 0).2 := by
  have h1 := Int32.le_toInt x
  have h2 := Int32.toInt_lt x
  show (-2147483648 : Int) ≤ _ ∧ _ ≤ (2147483647 : Int)
  omega
theorem z_rngL (x : Int64) : (z_lim 1).1 ≤ x.toInt ∧ x.toInt ≤ (z_lim 1).2 := by
  have h1 := Int64.le_toInt x
  have h2 := Int64.toInt_lt x
  show (-9223372036854775808 : Int) ≤ _ ∧ _ ≤ (9223372036854775807 : Int)
  omega
theorem z_bm {z : Int} (h1 : (z_lim 0).1 ≤ z) (h2 : z ≤ (z_lim 0).2) : z.bmod (2 ^ 32) = z := by
  have h1 : (-2147483648 : Int) ≤ z := h1
  have h2 : z ≤ (2147483647 : Int) := h2
  rw [Int.bmod_eq_of_le (by omega) (by omega)]
theorem z_bmL {z : Int} (h1 : (z_lim 1).1 ≤ z) (h2 : z ≤ (z_lim 1).2) : z.bmod (2 ^ 64) = z := by
  have h1 : (-9223372036854775808 : Int) ≤ z := h1
  have h2 : z ≤ (9223372036854775807 : Int) := h2
  rw [Int.bmod_eq_of_le (by omega) (by omega)]
theorem zs_inc {i n : Nat} {d : Int} (hd : (z_lim 0).1 ≤ d ∧ d ≤ (z_lim 0).2) (row : ∀ (H : Heap) (locs : List Loc) (ls : Array Slot) (rest : List Value) (x : Int32) (kk : Nat) (lv : List (Nat × Value)), lv_has ls nL lv → lv[kk]? = some (i, .int x) → i < nL → (∀ ls' : Array Slot, lv_has ls' nL ((i, .int (x + Int32.ofInt d)) :: lv.filter (fun q => !(q.1 == i) && !(q.1 + 1 == i && q.2.category == 2))) → W p l e R s m args below meth c H locs nc ns Q (F0 m n ls' rest)) → W p l e R s m args below meth c H locs nc ns Q (F0 m pc ls rest))
    (h : z_inc nL i d n ivs nv lo sk hp nc ns = some q) (k : ∀ z ∈ q, z_K p l e R s m args below meth c Q D tys A H0 nL ρ0 φ0 ad0 z.1 z.2) : z_K p l e R s m args below meth c Q D tys A H0 nL ρ0 φ0 ad0 pc (ivs, nv, lo, sk, hp, nc, ns) := by
  unfold z_inc at h
  split at h
  · rename_i x y ea
    split at h
    · rename_i et
      have e2 := Nat.le_of_ble_eq_true et
      split at h
      · rename_i r ivs' er
        cases h
        intro ρ φ ws lv st H locs ls hg
        obtain ⟨kk, v, h1, h2⟩ := z_lk_ok hg.lo ea
        obtain ⟨i32, rfl, hv⟩ := h2
        have ed : (Int32.ofInt d).toInt = d := by rw [Int32.toInt_ofInt, z_bm hd.1 hd.2]
        obtain ⟨r1, ρ', g1, g2, g3⟩ := z_add_ok (r := (i32 + Int32.ofInt d).toInt) hg.iv hg.zero hv (z_v.of0 hg.zero d) (fun a b => by rw [Int32.toInt_add, ed, z_bm a b]) (z_rng _) er
        have hg' := hg.more g1 g2
        exact row H locs ls st i32 kk lv hg.L h1 e2 (fun ls' hl => k _ (List.mem_singleton.mpr rfl) ρ' φ ws _ st H locs ls' (hg'.loc (z_st1_ok hg'.lo (z_m.ofR (ρ := ρ) (out := (r, ivs')) r1 g3)) hl))
      · cases h
    · cases h
  · cases h
/-- two ints, one int -/
def z_bin (t : Nat) (op : List zI → Nat → Int → Nat → Int → Option (zV × List zI)) (pc : Nat) (ivs : List zI) (nv : Nat) (lo : List (Nat × zV)) (sk : List zV) (hp : List zC) (nc ns : Nat) : zQ := match sk with
  | (t2, y, d) :: (t1, x, c) :: sk => match Nat.beq t1 t && Nat.beq t2 t with
    | true => match op ivs x c y d with
      | some (r, ivs') => some [(pc, (ivs', nv, lo, r :: sk, hp, nc, ns))]
      | none => none
    | false => none
  | _ => none
theorem zs_bin {n : Nat} {op : List zI → Nat → Int → Nat → Int → Option (zV × List zI)} {f : Int32 → Int32 → Int32} {G : Int32 → Prop}
    (hop : ∀ (ivs : List zI) (ρ : List Int) (x : Nat) (c : Int) (y : Nat) (d : Int) (X Y : Int32) (out : zV × List zI), z_iv ivs ρ → ρ[0]? = some 0 → z_v ρ x c X.toInt → z_v ρ y d Y.toInt → op ivs x c y d = some out → G Y ∧ z_R 0 ρ out (f X Y).toInt)
    (row : ∀ (H : Heap) (locs : List Loc) (ls : Array Slot) (rest : List Value) (x y : Int32), G y → W p l e R s m args below meth c H locs nc ns Q (F0 m n ls (.int (f x y) :: rest)) → W p l e R s m args below meth c H locs nc ns Q (F0 m pc ls (.int y :: .int x :: rest)))
    (h : z_bin 0 op n ivs nv lo sk hp nc ns = some q) (k : ∀ z ∈ q, z_K p l e R s m args below meth c Q D tys A H0 nL ρ0 φ0 ad0 z.1 z.2) : z_K p l e R s m args below meth c Q D tys A H0 nL ρ0 φ0 ad0 pc (ivs, nv, lo, sk, hp, nc, ns) := by
  unfold z_bin at h
  split at h
  · rename_i t2 y d t1 x c0 sk
    split at h
    · rename_i et
      have e1 := z_beq (z_and et).1
      have e2 := z_beq (z_and et).2
      subst e1
      subst e2
      split at h
      · rename_i r ivs' er
        cases h
        intro ρ φ ws lv st H locs ls hg
        obtain ⟨v2, st, rfl, hv2, hs⟩ := hg.sk.c1
        obtain ⟨v1, st, rfl, hv1, hs⟩ := hs.c1
        obtain ⟨Y, rfl, hY⟩ := hv2
        obtain ⟨X, rfl, hX⟩ := hv1
        obtain ⟨hG, r1, ρ', g1, g2, g3⟩ := hop ivs ρ x c0 y d X Y _ hg.iv hg.zero hX hY er
        have hg' := (hg.stk hs).more g1 g2
        exact row H locs ls st X Y hG (k _ (List.mem_singleton.mpr rfl) ρ' φ ws lv _ H locs ls (hg'.stk ⟨z_m.ofR (ρ := ρ) (out := (r, ivs')) r1 g3, hg'.sk⟩))
      · cases h
    · cases h
  · cases h
/-- two longs, one long -/
theorem zs_binL {n : Nat} {op : List zI → Nat → Int → Nat → Int → Option (zV × List zI)} {f : Int64 → Int64 → Int64} {G : Int64 → Prop}
    (hop : ∀ (ivs : List zI) (ρ : List Int) (x : Nat) (c : Int) (y : Nat) (d : Int) (X Y : Int64) (out : zV × List zI), z_iv ivs ρ → ρ[0]? = some 0 → z_v ρ x c X.toInt → z_v ρ y d Y.toInt → op ivs x c y d = some out → G Y ∧ z_R 1 ρ out (f X Y).toInt)
    (row : ∀ (H : Heap) (locs : List Loc) (ls : Array Slot) (rest : List Value) (x y : Int64), G y → W p l e R s m args below meth c H locs nc ns Q (F0 m n ls (.long (f x y) :: rest)) → W p l e R s m args below meth c H locs nc ns Q (F0 m pc ls (.long y :: .long x :: rest)))
    (h : z_bin 1 op n ivs nv lo sk hp nc ns = some q) (k : ∀ z ∈ q, z_K p l e R s m args below meth c Q D tys A H0 nL ρ0 φ0 ad0 z.1 z.2) : z_K p l e R s m args below meth c Q D tys A H0 nL ρ0 φ0 ad0 pc (ivs, nv, lo, sk, hp, nc, ns) := by
  unfold z_bin at h
  split at h
  · rename_i t2 y d t1 x c0 sk
    split at h
    · rename_i et
      have e1 := z_beq (z_and et).1
      have e2 := z_beq (z_and et).2
      subst e1
      subst e2
      split at h
      · rename_i r ivs' er
        cases h
        intro ρ φ ws lv st H locs ls hg
        obtain ⟨v2, st, rfl, hv2, hs⟩ := hg.sk.c1
        obtain ⟨v1, st, rfl, hv1, hs⟩ := hs.c1
        obtain ⟨Y, rfl, hY⟩ := hv2
        obtain ⟨X, rfl, hX⟩ := hv1
        obtain ⟨hG, r1, ρ', g1, g2, g3⟩ := hop ivs ρ x c0 y d X Y _ hg.iv hg.zero hX hY er
        have hg' := (hg.stk hs).more g1 g2
        exact row H locs ls st X Y hG (k _ (List.mem_singleton.mpr rfl) ρ' φ ws lv _ H locs ls (hg'.stk ⟨z_m.ofRL (ρ := ρ) (out := (r, ivs')) r1 g3, hg'.sk⟩))
      · cases h
    · cases h
  · cases h
/-- one number, one number -/
def z_un (t t' : Nat) (op : List zI → Nat → Int → Option (zV × List zI)) (pc : Nat) (ivs : List zI) (nv : Nat) (lo : List (Nat × zV)) (sk : List zV) (hp : List zC) (nc ns : Nat) : zQ := match sk with
  | (t1, x, c) :: sk => match Nat.beq t1 t with
    | true => match op ivs x c with
      | some (r, ivs') => match Nat.beq r.1 t' with
        | true => some [(pc, (ivs', nv, lo, r :: sk, hp, nc, ns))]
        | false => none
      | none => none
    | false => none
  | _ => none
/-- what a number is, of its kind -/
def z_nv (t : Nat) (v : Value) (z : Int) : Prop := match t with
  | 0 => ∃ i : Int32, v = .int i ∧ i.toInt = z
  | 1 => ∃ i : Int64, v = .long i ∧ i.toInt = z
  | _ => False
theorem z_m.nv {ρ : List Int} {ad : List Nat} {t x : Nat} {c z : Int} {v : Value} (h : z_nv t v z) (hv : z_v ρ x c z) : z_m ρ ad (t, x, c) v := by
  unfold z_nv at h
  split at h
  · obtain ⟨i, rfl, rfl⟩ := h
    exact ⟨i, rfl, hv⟩
  · obtain ⟨i, rfl, rfl⟩ := h
    exact ⟨i, rfl, hv⟩
  · exact h.elim
theorem z_m.num {ρ : List Int} {ad : List Nat} {t x : Nat} {c : Int} {v : Value} (ht : t < 2) (h : z_m ρ ad (t, x, c) v) : ∃ z, z_nv t v z ∧ z_v ρ x c z := by
  match t, ht, h with
  | 0, _, h =>
    obtain ⟨i, rfl, hv⟩ := h
    exact ⟨_, ⟨i, rfl, rfl⟩, hv⟩
  | 1, _, h =>
    obtain ⟨i, rfl, hv⟩ := h
    exact ⟨_, ⟨i, rfl, rfl⟩, hv⟩
theorem zs_un {n t t' : Nat} {op : List zI → Nat → Int → Option (zV × List zI)} (ht : t < 2)
    (hop : ∀ (ivs : List zI) (ρ : List Int) (x : Nat) (cx : Int) (v : Value) (z : Int) (out : zV × List zI), z_iv ivs ρ → ρ[0]? = some 0 → z_v ρ x cx z → z_nv t v z → op ivs x cx = some out → ∃ (v' : Value) (z' : Int), z_nv t' v' z' ∧ z_R out.1.1 ρ out z' ∧
      ∀ (H : Heap) (locs : List Loc) (ls : Array Slot) (rest : List Value), W p l e R s m args below meth c H locs nc ns Q (F0 m n ls (v' :: rest)) → W p l e R s m args below meth c H locs nc ns Q (F0 m pc ls (v :: rest)))
    (h : z_un t t' op n ivs nv lo sk hp nc ns = some q) (k : ∀ z ∈ q, z_K p l e R s m args below meth c Q D tys A H0 nL ρ0 φ0 ad0 z.1 z.2) : z_K p l e R s m args below meth c Q D tys A H0 nL ρ0 φ0 ad0 pc (ivs, nv, lo, sk, hp, nc, ns) := by
  unfold z_un at h
  split at h
  · rename_i t1 x c1 sk
    split at h
    · rename_i et
      have e1 := z_beq et
      subst e1
      split at h
      · rename_i r ivs' er
        split at h
        · rename_i er1
          have er1 := z_beq er1
          cases h
          intro ρ φ ws lv st H locs ls hg
          obtain ⟨v1, st, rfl, hv1, hs⟩ := hg.sk.c1
          obtain ⟨z, hz1, hz2⟩ := hv1.num ht
          obtain ⟨v', z', hn, ⟨-, ρ', g1, g2, g3⟩, row⟩ := hop ivs ρ x c1 v1 z _ hg.iv hg.zero hz2 hz1 er
          have hg' := (hg.stk hs).more g1 g2
          refine row H locs ls st (k _ (List.mem_singleton.mpr rfl) ρ' φ ws lv _ H locs ls (hg'.stk ⟨?_, hg'.sk⟩))
          obtain ⟨r1, r2, r3⟩ := r
          dsimp only at er1 g3
          subst er1
          exact z_m.nv hn g3
        · cases h
      · cases h
    · cases h
  · cases h
/-- branches on two ints -/
def z_go (ps : List (List zI)) (pc : Nat) (nv : Nat) (lo : List (Nat × zV)) (sk : List zV) (hp : List zC) (nc ns : Nat) : List (Nat × zS) := ps.map (fun i => (pc, (i, nv, lo, sk, hp, nc, ns)))
def z_br2 (t : Nat) (both : Bool) (cd : Jvm.ClassFile.Cond) (tgt nx : Nat) (ivs : List zI) (nv : Nat) (lo : List (Nat × zV)) (sk : List zV) (hp : List zC) (nc ns : Nat) : zQ := match sk with
  | (t2, y, d) :: (t1, x, c) :: sk => match Nat.beq t1 t && Nat.beq t2 t with
    | true => some (z_go (z_asm both cd ivs x c y d) tgt nv lo sk hp nc ns ++ z_go (z_asm both (z_neg cd) ivs x c y d) nx nv lo sk hp nc ns)
    | false => none
  | _ => none
def z_br1 (cd : Jvm.ClassFile.Cond) (tgt nx : Nat) (ivs : List zI) (nv : Nat) (lo : List (Nat × zV)) (sk : List zV) (hp : List zC) (nc ns : Nat) : zQ := match sk with
  | (t1, x, c) :: sk => match Nat.beq t1 0 with
    | true => some (z_go (z_asm false cd ivs x c 0 0) tgt nv lo sk hp nc ns ++ z_go (z_asm false (z_neg cd) ivs x c 0 0) nx nv lo sk hp nc ns)
    | false => none
  | _ => none
/-- what two ways give -/
theorem z_two {both : Bool} {cd : Jvm.ClassFile.Cond} {tgt nx x y : Nat} {c0 d X Y : Int} {w : List Value} (hg : z_g D tys A H0 nL ρ0 φ0 ad0 (ivs, nv, lo, sk, hp, nc, ns) ρ φ ws lv w H locs ls) (hX : z_v ρ x c0 X) (hY : z_v ρ y d Y)
    (k : ∀ z ∈ z_go (z_asm both cd ivs x c0 y d) tgt nv lo sk hp nc ns ++ z_go (z_asm both (z_neg cd) ivs x c0 y d) nx nv lo sk hp nc ns, z_K p l e R s m args below meth c Q D tys A H0 nL ρ0 φ0 ad0 z.1 z.2) :
    (z_hd cd X Y → W p l e R s m args below meth c H locs nc ns Q (F0 m tgt ls w)) ∧ (z_hd (z_neg cd) X Y → W p l e R s m args below meth c H locs nc ns Q (F0 m nx ls w)) := by
  refine ⟨fun h => ?_, fun h => ?_⟩
  · obtain ⟨i, h1, h2⟩ := z_asm_ok (both := both) hg.iv hX hY h
    exact k (tgt, (i, nv, lo, sk, hp, nc, ns)) (List.mem_append_left _ (List.mem_map.mpr ⟨i, h1, rfl⟩)) ρ φ ws lv w H locs ls (hg.more (List.prefix_refl _) h2)
  · obtain ⟨i, h1, h2⟩ := z_asm_ok (both := both) hg.iv hX hY h
    exact k (nx, (i, nv, lo, sk, hp, nc, ns)) (List.mem_append_right _ (List.mem_map.mpr ⟨i, h1, rfl⟩)) ρ φ ws lv w H locs ls (hg.more (List.prefix_refl _) h2)
theorem zs_br2 {cd : Jvm.ClassFile.Cond} {tgt nx : Nat}
    (row : ∀ (H : Heap) (locs : List Loc) (ls : Array Slot) (rest : List Value) (x y : Int32), (z_hd cd x.toInt y.toInt → W p l e R s m args below meth c H locs nc ns Q (F0 m tgt ls rest)) → (z_hd (z_neg cd) x.toInt y.toInt → W p l e R s m args below meth c H locs nc ns Q (F0 m nx ls rest)) → W p l e R s m args below meth c H locs nc ns Q (F0 m pc ls (.int y :: .int x :: rest)))
    (h : z_br2 0 false cd tgt nx ivs nv lo sk hp nc ns = some q) (k : ∀ z ∈ q, z_K p l e R s m args below meth c Q D tys A H0 nL ρ0 φ0 ad0 z.1 z.2) : z_K p l e R s m args below meth c Q D tys A H0 nL ρ0 φ0 ad0 pc (ivs, nv, lo, sk, hp, nc, ns) := by
  unfold z_br2 at h
  split at h
  · rename_i t2 y d t1 x c0 sk
    split at h
    · rename_i et
      have e1 := z_beq (z_and et).1
      have e2 := z_beq (z_and et).2
      subst e1
      subst e2
      cases h
      intro ρ φ ws lv st H locs ls hg
      obtain ⟨v2, st, rfl, hv2, hs⟩ := hg.sk.c1
      obtain ⟨v1, st, rfl, hv1, hs⟩ := hs.c1
      obtain ⟨Y, rfl, hY⟩ := hv2
      obtain ⟨X, rfl, hX⟩ := hv1
      have t := z_two (hg.stk hs) hX hY k
      exact row H locs ls st X Y t.1 t.2
    · cases h
  · cases h
theorem zs_br2L {cd : Jvm.ClassFile.Cond} {tgt nx : Nat}
    (row : ∀ (H : Heap) (locs : List Loc) (ls : Array Slot) (rest : List Value) (x y : Int64), (z_hd cd x.toInt y.toInt → W p l e R s m args below meth c H locs nc ns Q (F0 m tgt ls rest)) → (z_hd (z_neg cd) x.toInt y.toInt → W p l e R s m args below meth c H locs nc ns Q (F0 m nx ls rest)) → W p l e R s m args below meth c H locs nc ns Q (F0 m pc ls (.long y :: .long x :: rest)))
    (h : z_br2 1 true cd tgt nx ivs nv lo sk hp nc ns = some q) (k : ∀ z ∈ q, z_K p l e R s m args below meth c Q D tys A H0 nL ρ0 φ0 ad0 z.1 z.2) : z_K p l e R s m args below meth c Q D tys A H0 nL ρ0 φ0 ad0 pc (ivs, nv, lo, sk, hp, nc, ns) := by
  unfold z_br2 at h
  split at h
  · rename_i t2 y d t1 x c0 sk
    split at h
    · rename_i et
      have e1 := z_beq (z_and et).1
      have e2 := z_beq (z_and et).2
      subst e1
      subst e2
      cases h
      intro ρ φ ws lv st H locs ls hg
      obtain ⟨v2, st, rfl, hv2, hs⟩ := hg.sk.c1
      obtain ⟨v1, st, rfl, hv1, hs⟩ := hs.c1
      obtain ⟨Y, rfl, hY⟩ := hv2
      obtain ⟨X, rfl, hX⟩ := hv1
      have t := z_two (hg.stk hs) hX hY k
      exact row H locs ls st X Y t.1 t.2
    · cases h
  · cases h
theorem zs_br1 {cd : Jvm.ClassFile.Cond} {tgt nx : Nat}
    (row : ∀ (H : Heap) (locs : List Loc) (ls : Array Slot) (rest : List Value) (x : Int32), (z_hd cd x.toInt 0 → W p l e R s m args below meth c H locs nc ns Q (F0 m tgt ls rest)) → (z_hd (z_neg cd) x.toInt 0 → W p l e R s m args below meth c H locs nc ns Q (F0 m nx ls rest)) → W p l e R s m args below meth c H locs nc ns Q (F0 m pc ls (.int x :: rest)))
    (h : z_br1 cd tgt nx ivs nv lo sk hp nc ns = some q) (k : ∀ z ∈ q, z_K p l e R s m args below meth c Q D tys A H0 nL ρ0 φ0 ad0 z.1 z.2) : z_K p l e R s m args below meth c Q D tys A H0 nL ρ0 φ0 ad0 pc (ivs, nv, lo, sk, hp, nc, ns) := by
  unfold z_br1 at h
  split at h
  · rename_i t1 x c0 sk
    split at h
    · rename_i et
      have e1 := z_beq et
      subst e1
      cases h
      intro ρ φ ws lv st H locs ls hg
      obtain ⟨v1, st, rfl, hv1, hs⟩ := hg.sk.c1
      obtain ⟨X, rfl, hX⟩ := hv1
      have t := z_two (hg.stk hs) hX (z_v.of0 hg.zero 0) k
      exact row H locs ls st X t.1 t.2
    · cases h
  · cases h
end ZA
end
section
/-! ===== fields, arrays, new cells ===== -/
theorem z_ad_get {ws : va_W} {j a : Nat} {e : va_E} (h : ws[j]? = some (a, e)) : (z_ad ws)[j]? = some a := by
  unfold z_ad
  rw [List.getElem?_map, h]
  rfl
theorem z_ad_set {ws : va_W} {j a : Nat} {e e' : va_E} (h : ws[j]? = some (a, e)) : z_ad (ws.set j (a, e')) = z_ad ws := by
  unfold z_ad
  apply List.ext_getElem?
  intro i
  rw [List.getElem?_map, List.getElem?_map]
  by_cases hi : j = i
  · subst hi
    rw [List.getElem?_set_self (List.getElem?_eq_some_iff.mp h).1, h]
    rfl
  · rw [List.getElem?_set_ne hi]
theorem z_ad_app (ws ws2 : va_W) : z_ad (ws ++ ws2) = z_ad ws ++ z_ad ws2 := List.map_append ..
theorem z_cell {tys : List (ClassId × FieldType)} {ρ : List Int} {φ : List zP} {ws : va_W} {hp : List zC} {j : Nat} {o : Int} {v : Value} {cell : zC} (hH : z_F (z_H tys ρ φ (z_ad ws)) hp ws) (hm : z_m ρ (z_ad ws) (2, j, o) v) (hc : hp[j]? = some cell) :
    ∃ (a : Nat) (e : va_E), ws[j]? = some (a, e) ∧ v = .ref a ∧ z_c tys ρ φ (z_ad ws) cell e := by
  obtain ⟨⟨a, e⟩, h1, h2⟩ := hH.get hc
  obtain ⟨q, h3, h4⟩ := hm
  rw [z_ad_get h1] at h3
  cases h3
  exact ⟨a, e, h1, h4, h2⟩
def z_tyok (ty : Nat) (ivs : List zI) (a : zV) : Bool := match ty with
  | 0 => Nat.beq a.1 0
  | 1 => Nat.beq a.1 0 && (match z_b ivs a.2.1 a.2.2 with
    | some (l, h) => z_ile 0 l && z_ile h 1
    | none => false)
  | 2 => Nat.beq a.1 1
  | _ => Nat.beq a.1 2
def z_tv (ty : Nat) (v : Value) : Prop := match ty with
  | 0 => ∃ i : Int32, v = .int i
  | 1 => v = .int 0 ∨ v = .int 1
  | 2 => ∃ i : Int64, v = .long i
  | _ => ∃ a : Nat, v = .ref a
theorem z_01 {x : Int32} (h1 : 0 ≤ x.toInt) (h2 : x.toInt ≤ 1) : x = 0 ∨ x = 1 := by
  rcases (show x.toInt = 0 ∨ x.toInt = 1 by omega) with h | h
  · exact Or.inl (Int32.toInt_inj.mp (by rw [h]; rfl))
  · exact Or.inr (Int32.toInt_inj.mp (by rw [h]; rfl))
theorem z_tyok_ok {ty : Nat} {ivs : List zI} {ρ : List Int} {ad : List Nat} {a : zV} {v : Value} (hiv : z_iv ivs ρ) (hm : z_m ρ ad a v) (h : z_tyok ty ivs a = true) : z_tv ty v := by
  obtain ⟨t, x, y⟩ := a
  unfold z_tyok at h
  unfold z_tv
  split at h
  · have e : t = 0 := z_beq h
    subst e
    obtain ⟨i, rfl, -⟩ := hm
    exact ⟨i, rfl⟩
  · have e : t = 0 := z_beq (z_and h).1
    subst e
    obtain ⟨i, rfl, hv⟩ := hm
    have h2 := (z_and h).2
    split at h2
    · rename_i l u eb
      have b := z_b_ok hiv hv eb
      have b1 := z_ile_ok (z_and h2).1
      have b2 := z_ile_ok (z_and h2).2
      rcases z_01 (x := i) (by omega) (by omega) with e | e
      · exact Or.inl (by rw [e])
      · exact Or.inr (by rw [e])
    · cases h2
  · have e : t = 1 := z_beq h
    subst e
    obtain ⟨i, rfl, -⟩ := hm
    exact ⟨i, rfl⟩
  · have e : t = 2 := z_beq h
    subst e
    obtain ⟨q, -, rfl⟩ := hm
    exact ⟨q, rfl⟩
section ZB
variable {p : Program} {l : Launch} {e : Env} {R : Room} {s : State} {m : MethodId} {args : Array Value} {below : List Frame} {meth : Method} {c : Code} {Q : State → Prop} {D : va_G} {tys : List (ClassId × FieldType)} {A : Nat → Prop} {H0 : Heap} {nL : Nat} {ρ0 : List Int} {φ0 : List zP} {ad0 : List Nat}
variable {cc : ByteArray} {pc : Nat} {ivs : List zI} {nv : Nat} {lo : List (Nat × zV)} {sk : List zV} {hp : List zC} {nc ns : Nat} {q : List (Nat × zS)}
variable {ρ : List Int} {φ : List zP} {ws : va_W} {lv : List (Nat × Value)} {st st' : List Value} {H : Heap} {locs : List Loc} {ls : Array Slot} {sk' : List zV}
/-- a cell of the world has changed -/
theorem z_g.set {H1 : Heap} {locs1 : List Loc} {j a : Nat} {e0 e1 : va_E} {cell : zC} {ps : List zP} (h : z_g D tys A H0 nL ρ0 φ0 ad0 (ivs, nv, lo, sk, hp, nc, ns) ρ φ ws lv st H locs ls) (hj : ws[j]? = some (a, e0)) (hc : z_c tys ρ (φ ++ ps) (z_ad ws) cell e1) (hP : va_P D vwCl (ws.set j (a, e1)) H1) (hD : va_D A (ws.set j (a, e1))) (hS : va_S A H0 H1 locs1) :
    z_g D tys A H0 nL ρ0 φ0 ad0 (ivs, nv + ps.length, lo, sk, hp.set j cell, nc, ns) ρ (φ ++ ps) (ws.set j (a, e1)) lv st H1 locs1 ls := by
  obtain ⟨⟨a1, a2, a3, a4⟩, b1, b2, b3, b4, b5, b6, b7, b8, b9⟩ := h
  have ead := z_ad_set (e' := e1) hj
  refine ⟨⟨a1, a2.trans (z_app_pre _ _), by rw [ead]; exact a3, a4⟩, b1, ?_, by rw [ead]; exact b3, by rw [ead]; exact b4, ?_, hP, hD, hS, b9⟩
  · rw [List.length_append, b2]
  · rw [ead]
    exact z_F.set (a := cell) (b := (a, e1)) hc (b5.mono (fun _ _ k => z_c.mono (List.prefix_refl _) (z_app_pre _ _) (List.prefix_refl _) k)) j
def z_gf (ci k : Nat) (pc : Nat) (ivs : List zI) (nv : Nat) (lo : List (Nat × zV)) (sk : List zV) (hp : List zC) (nc ns : Nat) : zQ := match sk with
  | (2, j, _) :: sk => match hp[j]? with
    | some (.inl (ci', fs)) => match Nat.beq ci' ci with
      | true => match fs[k]? with
        | some a => some [(pc, (ivs, nv, lo, a :: sk, hp, nc, ns))]
        | none => none
      | false => none
    | _ => none
  | _ => none
theorem zs_gf {ci k n : Nat} (row : ∀ (ws : va_W) (H : Heap) (locs : List Loc) (ls : Array Slot) (rest : List Value) (a q0 : Nat) (vs : List Value) (v : Value), va_P D vwCl ws H → ws[q0]? = some (a, .inr (ci, vs)) → vs[k]? = some v → W p l e R s m args below meth c H locs nc ns Q (F0 m n ls (v :: rest)) → W p l e R s m args below meth c H locs nc ns Q (F0 m pc ls (.ref a :: rest)))
    (h : z_gf ci k n ivs nv lo sk hp nc ns = some q) (kk : ∀ z ∈ q, z_K p l e R s m args below meth c Q D tys A H0 nL ρ0 φ0 ad0 z.1 z.2) : z_K p l e R s m args below meth c Q D tys A H0 nL ρ0 φ0 ad0 pc (ivs, nv, lo, sk, hp, nc, ns) := by
  unfold z_gf at h
  split at h
  · rename_i j o sk
    split at h
    · rename_i ci' fs ec
      split at h
      · rename_i ei
        have ei := z_beq ei
        subst ei
        split at h
        · rename_i a ea
          cases h
          intro ρ φ ws lv st H locs ls hg
          obtain ⟨v1, st, rfl, hv1, hs⟩ := hg.sk.c1
          obtain ⟨ad, e1, h1, rfl, h2⟩ := z_cell hg.hp hv1 ec
          obtain ⟨vs, rfl, hF⟩ := h2
          obtain ⟨v, h3, h4⟩ := hF.get ea
          exact row ws H locs ls st ad j vs v hg.P h1 h3 (kk _ (List.mem_singleton.mpr rfl) ρ φ ws lv _ H locs ls (hg.stk ⟨h4, hs⟩))
        · cases h
      · cases h
    · cases h
  · cases h
def z_pf (ci k ty : Nat) (pc : Nat) (ivs : List zI) (nv : Nat) (lo : List (Nat × zV)) (sk : List zV) (hp : List zC) (nc ns : Nat) : zQ := match sk with
  | a :: (2, j, _) :: sk => match hp[j]? with
    | some (.inl (ci', fs)) => match Nat.beq ci' ci && (Nat.ble (k + 1) fs.length && z_tyok ty ivs a) with
      | true => some [(pc, (ivs, nv, lo, sk, hp.set j (.inl (ci, fs.set k a)), nc, ns))]
      | false => none
    | _ => none
  | _ => none
theorem zs_pf {ci k ty n : Nat} (row : ∀ (ws : va_W) (H : Heap) (locs : List Loc) (ls : Array Slot) (rest : List Value) (a q0 : Nat) (vs : List Value) (v : Value), va_P D vwCl ws H → va_D A ws → va_S A H0 H locs → ws[q0]? = some (a, .inr (ci, vs)) → k < vs.length → z_tv ty v →
      (∀ (H1 : Heap) (locs1 : List Loc), va_P D vwCl (ws.set q0 (a, .inr (ci, vs.set k v))) H1 → va_D A (ws.set q0 (a, .inr (ci, vs.set k v))) → va_S A H0 H1 locs1 → W p l e R s m args below meth c H1 locs1 nc ns Q (F0 m n ls rest)) → W p l e R s m args below meth c H locs nc ns Q (F0 m pc ls (v :: .ref a :: rest)))
    (h : z_pf ci k ty n ivs nv lo sk hp nc ns = some q) (kk : ∀ z ∈ q, z_K p l e R s m args below meth c Q D tys A H0 nL ρ0 φ0 ad0 z.1 z.2) : z_K p l e R s m args below meth c Q D tys A H0 nL ρ0 φ0 ad0 pc (ivs, nv, lo, sk, hp, nc, ns) := by
  unfold z_pf at h
  split at h
  · rename_i a j o sk
    split at h
    · rename_i ci' fs ec
      split at h
      · rename_i et
        have ei := z_beq (z_and et).1
        have el := Nat.le_of_ble_eq_true (z_and (z_and et).2).1
        have ey := (z_and (z_and et).2).2
        subst ei
        cases h
        intro ρ φ ws lv st H locs ls hg
        obtain ⟨v, st, rfl, hv, hs⟩ := hg.sk.c1
        obtain ⟨v1, st, rfl, hv1, hs⟩ := hs.c1
        obtain ⟨ad, e1, h1, rfl, h2⟩ := z_cell hg.hp hv1 ec
        obtain ⟨vs, rfl, hF⟩ := h2
        refine row ws H locs ls st ad j vs v hg.P hg.D hg.S h1 (by rw [← hF.len]; exact el) (z_tyok_ok hg.iv hv ey) (fun H1 locs1 hP hD hS => ?_)
        have hc : z_c tys ρ (φ ++ []) (z_ad ws) (.inl (ci', fs.set k a)) (.inr (ci', vs.set k v)) := ⟨_, rfl, z_F.set hv hF k⟩
        have hg' := (hg.stk hs).set h1 hc hP hD hS
        rw [List.append_nil] at hg'
        exact kk _ (List.mem_singleton.mpr rfl) ρ φ _ lv st H1 locs1 ls hg'
      · cases h
    · cases h
  · cases h
/-- an index that is in its row -/
def z_ix (ivs : List zI) (x : Nat) (c : Int) (n : Nat) : Bool := match z_b ivs x c with
  | some (l, h) => z_ile 0 l && z_ile (h + 1) (Int.ofNat n)
  | none => false
theorem z_ix_ok {ivs : List zI} {ρ : List Int} {x n : Nat} {c0 : Int} {i : Int32} (hiv : z_iv ivs ρ) (hv : z_v ρ x c0 i.toInt) (h : z_ix ivs x c0 n = true) : vp_in i n ∧ i.toNatClampNeg < n ∧ (i.toNatClampNeg : Int) = i.toInt := by
  unfold z_ix at h
  split at h
  · rename_i l u eb
    have b := z_b_ok hiv hv eb
    have b1 := z_ile_ok (z_and h).1
    have b2 : u + 1 ≤ (n : Int) := z_ile_ok (z_and h).2
    refine ⟨vp_in_iff.mpr ⟨by omega, by omega⟩, ?_, ?_⟩
    · show i.toInt.toNat < n
      omega
    · show ((i.toInt.toNat : Nat) : Int) = i.toInt
      omega
  · cases h
/-- a number out of an array -/
def z_al (ok : Nat → Bool) (rt : Nat) (pc : Nat) (ivs : List zI) (nv : Nat) (lo : List (Nat × zV)) (sk : List zV) (hp : List zC) (nc ns : Nat) : zQ := match sk with
  | (0, x, c) :: (2, j, _) :: sk => match hp[j]? with
    | some (.inr (.inl (t, n, _, l, h))) => match ok t && z_ix ivs x c n with
      | true => match z_new rt l h ivs with
        | (r, ivs') => some [(pc, (ivs', nv, lo, r :: sk, hp, nc, ns))]
      | false => none
    | _ => none
  | _ => none
theorem zs_al {n : Nat} {ok : Nat → Bool} (hok : ok 3 = false) (row : ∀ (ws : va_W) (H : Heap) (locs : List Loc) (ls : Array Slot) (rest : List Value) (a q0 t0 n0 : Nat) (cA : ClassId) (ty : FieldType) (f : Nat → Int32) (i : Int32), va_P D vwCl ws H → ws[q0]? = some (a, .inl (cA, n0, .inl f)) → tys[t0]? = some (cA, ty) → ok t0 = true → vp_in i n0 → W p l e R s m args below meth c H locs nc ns Q (F0 m n ls (.int (f i.toNatClampNeg) :: rest)) → W p l e R s m args below meth c H locs nc ns Q (F0 m pc ls (.int i :: .ref a :: rest)))
    (h : z_al ok 0 n ivs nv lo sk hp nc ns = some q) (kk : ∀ z ∈ q, z_K p l e R s m args below meth c Q D tys A H0 nL ρ0 φ0 ad0 z.1 z.2) : z_K p l e R s m args below meth c Q D tys A H0 nL ρ0 φ0 ad0 pc (ivs, nv, lo, sk, hp, nc, ns) := by
  unfold z_al at h
  split at h
  · rename_i x c0 j o sk
    split at h
    · rename_i t n0 w lb hb0 ec
      split at h
      · rename_i et
        have e1 := (z_and et).1
        have e2 := (z_and et).2
        cases h
        intro ρ φ ws lv st H locs ls hg
        obtain ⟨v2, st, rfl, hv2, hs⟩ := hg.sk.c1
        obtain ⟨v1, st, rfl, hv1, hs⟩ := hs.c1
        obtain ⟨i, rfl, hi⟩ := hv2
        obtain ⟨ad, ee, h1, rfl, h2⟩ := z_cell hg.hp hv1 ec
        have hin := z_ix_ok hg.iv hi e2
        obtain ⟨cA, ty, ht, ⟨-, f, rfl, -, hb⟩ | ⟨h3, -⟩⟩ := h2
        · have hb := hb _ hin.2.1
          obtain ⟨r1, ρ', g1, g2, g3⟩ := z_new_ok (t := 0) hg.iv hg.zero hb.1 hb.2
          have hg' := (hg.stk hs).more g1 g2
          exact row ws H locs ls st ad j t n0 cA ty f i hg.P h1 ht e1 hin.1 (kk _ (List.mem_singleton.mpr rfl) ρ' φ ws lv _ H locs ls (hg'.stk ⟨z_m.ofR (ρ := ρ) r1 g3, hg'.sk⟩))
        · rw [h3, hok] at e1
          cases e1
      · cases h
    · cases h
  · cases h
theorem zs_alL {n : Nat} {ok : Nat → Bool} (hok : ∀ t, ok t = true → t = 3) (row : ∀ (ws : va_W) (H : Heap) (locs : List Loc) (ls : Array Slot) (rest : List Value) (a q0 n0 : Nat) (cA : ClassId) (ty : FieldType) (f : Nat → Int64) (i : Int32), va_P D vwCl ws H → ws[q0]? = some (a, .inl (cA, n0, .inr (.inl f))) → tys[3]? = some (cA, ty) → vp_in i n0 → W p l e R s m args below meth c H locs nc ns Q (F0 m n ls (.long (f i.toNatClampNeg) :: rest)) → W p l e R s m args below meth c H locs nc ns Q (F0 m pc ls (.int i :: .ref a :: rest)))
    (h : z_al ok 1 n ivs nv lo sk hp nc ns = some q) (kk : ∀ z ∈ q, z_K p l e R s m args below meth c Q D tys A H0 nL ρ0 φ0 ad0 z.1 z.2) : z_K p l e R s m args below meth c Q D tys A H0 nL ρ0 φ0 ad0 pc (ivs, nv, lo, sk, hp, nc, ns) := by
  unfold z_al at h
  split at h
  · rename_i x c0 j o sk
    split at h
    · rename_i t n0 w lb hb0 ec
      split at h
      · rename_i et
        have e1 := hok t (z_and et).1
        have e2 := (z_and et).2
        cases h
        intro ρ φ ws lv st H locs ls hg
        obtain ⟨v2, st, rfl, hv2, hs⟩ := hg.sk.c1
        obtain ⟨v1, st, rfl, hv1, hs⟩ := hs.c1
        obtain ⟨i, rfl, hi⟩ := hv2
        obtain ⟨ad, ee, h1, rfl, h2⟩ := z_cell hg.hp hv1 ec
        have hin := z_ix_ok hg.iv hi e2
        obtain ⟨cA, ty, ht, ⟨h3, -⟩ | ⟨-, f, rfl, -, hb⟩⟩ := h2
        · exact absurd e1 h3
        · have hb := hb _ hin.2.1
          subst e1
          obtain ⟨r1, ρ', g1, g2, g3⟩ := z_new_ok (t := 1) hg.iv hg.zero hb.1 hb.2
          have hg' := (hg.stk hs).more g1 g2
          exact row ws H locs ls st ad j n0 cA ty f i hg.P h1 ht hin.1 (kk _ (List.mem_singleton.mpr rfl) ρ' φ ws lv _ H locs ls (hg'.stk ⟨z_m.ofRL (ρ := ρ) r1 g3, hg'.sk⟩))
      · cases h
    · cases h
  · cases h
/-- a number into an array: bounds that the row's kind asks for -/
def z_as (vt : Nat) (ok : Nat → Int → Int → Bool) (pc : Nat) (ivs : List zI) (nv : Nat) (lo : List (Nat × zV)) (sk : List zV) (hp : List zC) (nc ns : Nat) : zQ := match sk with
  | (t1, y, d) :: (0, x, c) :: (2, j, _) :: sk => match hp[j]? with
    | some (.inr (.inl (t, n, _, l, h))) => match z_b ivs y d with
      | some (vl, vh) => match Nat.beq t1 vt && (ok t vl vh && z_ix ivs x c n) with
        | true => some [(pc, (ivs, nv + 1, lo, sk, hp.set j (.inr (.inl (t, n, nv, z_min l vl, z_max h vh))), nc, ns))]
        | false => none
      | none => none
    | _ => none
  | _ => none
theorem z_last {α : Type} {l : List α} {n : Nat} (a : α) (h : l.length = n) : (l ++ [a])[n]? = some a := by
  rw [← h, List.getElem?_append_right (Nat.le_refl _), Nat.sub_self]
  rfl
theorem zs_as {n : Nat} {ok : Nat → Int → Int → Bool} (hok : ∀ a b, ok 3 a b = false) (row : ∀ (ws : va_W) (H : Heap) (locs : List Loc) (ls : Array Slot) (rest : List Value) (a q0 t0 n0 : Nat) (cA : ClassId) (ty : FieldType) (f : Nat → Int32) (i x : Int32) (vl vh : Int), va_P D vwCl ws H → va_D A ws → va_S A H0 H locs → ws[q0]? = some (a, .inl (cA, n0, .inl f)) → tys[t0]? = some (cA, ty) → ok t0 vl vh = true → vl ≤ x.toInt → x.toInt ≤ vh → vp_in i n0 →
      (∀ (H1 : Heap) (locs1 : List Loc), va_P D vwCl (ws.set q0 (a, .inl (cA, n0, .inl (upd f i.toNatClampNeg x)))) H1 → va_D A (ws.set q0 (a, .inl (cA, n0, .inl (upd f i.toNatClampNeg x)))) → va_S A H0 H1 locs1 → W p l e R s m args below meth c H1 locs1 nc ns Q (F0 m n ls rest)) → W p l e R s m args below meth c H locs nc ns Q (F0 m pc ls (.int x :: .int i :: .ref a :: rest)))
    (h : z_as 0 ok n ivs nv lo sk hp nc ns = some q) (kk : ∀ z ∈ q, z_K p l e R s m args below meth c Q D tys A H0 nL ρ0 φ0 ad0 z.1 z.2) : z_K p l e R s m args below meth c Q D tys A H0 nL ρ0 φ0 ad0 pc (ivs, nv, lo, sk, hp, nc, ns) := by
  unfold z_as at h
  split at h
  · rename_i t1 y d x c0 j o sk
    split at h
    · rename_i t n0 w lb hb0 ec
      split at h
      · rename_i vl vh eb
        split at h
        · rename_i et
          have e0 := z_beq (z_and et).1
          have e1 := (z_and (z_and et).2).1
          have e2 := (z_and (z_and et).2).2
          subst e0
          cases h
          intro ρ φ ws lv st H locs ls hg
          obtain ⟨v3, st, rfl, hv3, hs⟩ := hg.sk.c1
          obtain ⟨v2, st, rfl, hv2, hs⟩ := hs.c1
          obtain ⟨v1, st, rfl, hv1, hs⟩ := hs.c1
          obtain ⟨X, rfl, hX⟩ := hv3
          obtain ⟨i, rfl, hi⟩ := hv2
          obtain ⟨ad, ee, h1, rfl, h2⟩ := z_cell hg.hp hv1 ec
          have hin := z_ix_ok hg.iv hi e2
          have hxb := z_b_ok hg.iv hX eb
          obtain ⟨cA, ty, ht, ⟨h3, f, rfl, -, hb⟩ | ⟨h3, -⟩⟩ := h2
          · refine row ws H locs ls st ad j t n0 cA ty f i X vl vh hg.P hg.D hg.S h1 ht e1 hxb.1 hxb.2 hin.1 (fun H1 locs1 hP hD hS => ?_)
            have hc : z_c tys ρ (φ ++ [.inl (upd f i.toNatClampNeg X)]) (z_ad ws) (.inr (.inl (t, n0, nv, z_min lb vl, z_max hb0 vh))) (.inl (cA, n0, .inl (upd f i.toNatClampNeg X))) := by
              refine ⟨cA, ty, ht, Or.inl ⟨h3, _, rfl, z_last _ hg.nv, fun jj hj => ?_⟩⟩
              have m1 := z_min_l lb vl
              have m2 := z_min_r lb vl
              have m3 := z_max_l hb0 vh
              have m4 := z_max_r hb0 vh
              have b := hb jj hj
              unfold upd
              split <;> omega
            exact kk _ (List.mem_singleton.mpr rfl) ρ _ _ lv st H1 locs1 ls ((hg.stk hs).set h1 hc hP hD hS)
          · rw [h3, hok] at e1
            cases e1
        · cases h
      · cases h
    · cases h
  · cases h
theorem zs_asL {n : Nat} {ok : Nat → Int → Int → Bool} (hok : ∀ t a b, ok t a b = true → t = 3) (row : ∀ (ws : va_W) (H : Heap) (locs : List Loc) (ls : Array Slot) (rest : List Value) (a q0 n0 : Nat) (cA : ClassId) (ty : FieldType) (f : Nat → Int64) (i : Int32) (x : Int64), va_P D vwCl ws H → va_D A ws → va_S A H0 H locs → ws[q0]? = some (a, .inl (cA, n0, .inr (.inl f))) → tys[3]? = some (cA, ty) → vp_in i n0 →
      (∀ (H1 : Heap) (locs1 : List Loc), va_P D vwCl (ws.set q0 (a, .inl (cA, n0, .inr (.inl (vp_updL f i.toNatClampNeg x))))) H1 → va_D A (ws.set q0 (a, .inl (cA, n0, .inr (.inl (vp_updL f i.toNatClampNeg x))))) → va_S A H0 H1 locs1 → W p l e R s m args below meth c H1 locs1 nc ns Q (F0 m n ls rest)) → W p l e R s m args below meth c H locs nc ns Q (F0 m pc ls (.long x :: .int i :: .ref a :: rest)))
    (h : z_as 1 ok n ivs nv lo sk hp nc ns = some q) (kk : ∀ z ∈ q, z_K p l e R s m args below meth c Q D tys A H0 nL ρ0 φ0 ad0 z.1 z.2) : z_K p l e R s m args below meth c Q D tys A H0 nL ρ0 φ0 ad0 pc (ivs, nv, lo, sk, hp, nc, ns) := by
  unfold z_as at h
  split at h
  · rename_i t1 y d x c0 j o sk
    split at h
    · rename_i t n0 w lb hb0 ec
      split at h
      · rename_i vl vh eb
        split at h
        · rename_i et
          have e0 := z_beq (z_and et).1
          have e1 := hok t _ _ (z_and (z_and et).2).1
          have e2 := (z_and (z_and et).2).2
          subst e0
          cases h
          intro ρ φ ws lv st H locs ls hg
          obtain ⟨v3, st, rfl, hv3, hs⟩ := hg.sk.c1
          obtain ⟨v2, st, rfl, hv2, hs⟩ := hs.c1
          obtain ⟨v1, st, rfl, hv1, hs⟩ := hs.c1
          obtain ⟨X, rfl, hX⟩ := hv3
          obtain ⟨i, rfl, hi⟩ := hv2
          obtain ⟨ad, ee, h1, rfl, h2⟩ := z_cell hg.hp hv1 ec
          have hin := z_ix_ok hg.iv hi e2
          have hxb := z_b_ok hg.iv hX eb
          obtain ⟨cA, ty, ht, ⟨h3, -⟩ | ⟨h3, f, rfl, -, hb⟩⟩ := h2
          · exact absurd e1 h3
          · subst h3
            refine row ws H locs ls st ad j n0 cA ty f i X hg.P hg.D hg.S h1 ht hin.1 (fun H1 locs1 hP hD hS => ?_)
            have hc : z_c tys ρ (φ ++ [.inr (vp_updL f i.toNatClampNeg X)]) (z_ad ws) (.inr (.inl (3, n0, nv, z_min lb vl, z_max hb0 vh))) (.inl (cA, n0, .inr (.inl (vp_updL f i.toNatClampNeg X)))) := by
              refine ⟨cA, ty, ht, Or.inr ⟨rfl, _, rfl, z_last _ hg.nv, fun jj hj => ?_⟩⟩
              have m1 := z_min_l lb vl
              have m2 := z_min_r lb vl
              have m3 := z_max_l hb0 vh
              have m4 := z_max_r hb0 vh
              have b := hb jj hj
              unfold vp_updL
              split <;> omega
            exact kk _ (List.mem_singleton.mpr rfl) ρ _ _ lv st H1 locs1 ls ((hg.stk hs).set h1 hc hP hD hS)
        · cases h
      · cases h
    · cases h
  · cases h
/-- a cell out of an array of references: place by place -/
def z_ar (pc : Nat) (ivs : List zI) (nv : Nat) (lo : List (Nat × zV)) (sk : List zV) (hp : List zC) (nc ns : Nat) : zQ := match sk with
  | (0, x, c) :: (2, j, _) :: sk => match hp[j]? with
    | some (.inr (.inr (_, es))) => match z_ix ivs x c es.length with
      | true => some ((List.range es.length).flatMap (fun k => match es[k]? with
        | some a => z_go (z_asm false .eq ivs x c 0 (Int.ofNat k)) pc nv lo (a :: sk) hp nc ns
        | none => []))
      | false => none
    | _ => none
  | _ => none
theorem zs_ar {n : Nat} (row : ∀ (ws : va_W) (H : Heap) (locs : List Loc) (ls : Array Slot) (rest : List Value) (a q0 t0 n0 : Nat) (cA : ClassId) (ty : FieldType) (f : Nat → Option Nat) (i : Int32), va_P D vwCl ws H → ws[q0]? = some (a, .inl (cA, n0, .inr (.inr (.inr (.inr f))))) → tys[t0]? = some (cA, ty) → vp_in i n0 → W p l e R s m args below meth c H locs nc ns Q (F0 m n ls (va_rf (f i.toNatClampNeg) :: rest)) → W p l e R s m args below meth c H locs nc ns Q (F0 m pc ls (.int i :: .ref a :: rest)))
    (h : z_ar n ivs nv lo sk hp nc ns = some q) (kk : ∀ z ∈ q, z_K p l e R s m args below meth c Q D tys A H0 nL ρ0 φ0 ad0 z.1 z.2) : z_K p l e R s m args below meth c Q D tys A H0 nL ρ0 φ0 ad0 pc (ivs, nv, lo, sk, hp, nc, ns) := by
  unfold z_ar at h
  split at h
  · rename_i x c0 j o sk
    split at h
    · rename_i t es ec
      split at h
      · rename_i et
        cases h
        intro ρ φ ws lv st H locs ls hg
        obtain ⟨v2, st, rfl, hv2, hs⟩ := hg.sk.c1
        obtain ⟨v1, st, rfl, hv1, hs⟩ := hs.c1
        obtain ⟨i, rfl, hi⟩ := hv2
        obtain ⟨ad, ee, h1, rfl, h2⟩ := z_cell hg.hp hv1 ec
        have hin := z_ix_ok hg.iv hi et
        obtain ⟨cA, ty, f, ht, rfl, hb⟩ := h2
        have ea : es[i.toNatClampNeg]? = some es[i.toNatClampNeg] := List.getElem?_eq_getElem hin.2.1
        obtain ⟨iv, h3, h4⟩ := z_asm_ok (both := false) (cd := .eq) (c := c0) (d := Int.ofNat i.toNatClampNeg) (Y := Int.ofNat i.toNatClampNeg) hg.iv hi (z_v.of0 hg.zero _) (show i.toInt = Int.ofNat _ from hin.2.2.symm)
        refine row ws H locs ls st ad j t es.length cA ty f i hg.P h1 ht hin.1 (kk (n, (iv, nv, lo, es[i.toNatClampNeg] :: sk, hp, nc, ns)) ?_ ρ φ ws lv _ H locs ls (((hg.stk hs).more (List.prefix_refl _) h4).stk ⟨hb _ _ ea, hs⟩))
        refine List.mem_flatMap.mpr ⟨i.toNatClampNeg, List.mem_range.mpr hin.2.1, ?_⟩
        rw [ea]
        exact List.mem_map.mpr ⟨iv, h3, rfl⟩
      · cases h
    · cases h
  · cases h
/-- a cell into an array of references, at a place that is known -/
def z_sr (ok : Nat → Nat → Bool) (pc : Nat) (ivs : List zI) (nv : Nat) (lo : List (Nat × zV)) (sk : List zV) (hp : List zC) (nc ns : Nat) : zQ := match sk with
  | (2, v, o) :: (0, 0, k) :: (2, j, _) :: sk => match hp[j]?, hp[v]? with
    | some (.inr (.inr (t, es))), some (.inl (ci, _)) => match ok t ci && z_ix ivs 0 k es.length with
      | true => some [(pc, (ivs, nv, lo, sk, hp.set j (.inr (.inr (t, es.set k.toNat (2, v, o)))), nc, ns))]
      | false => none
    | _, _ => none
  | _ => none
theorem zs_sr {n : Nat} {ok : Nat → Nat → Bool} (row : ∀ (ws : va_W) (H : Heap) (locs : List Loc) (ls : Array Slot) (rest : List Value) (a q0 t0 n0 v qk ci : Nat) (cA : ClassId) (ty : FieldType) (f : Nat → Option Nat) (vs : List Value) (i : Int32), va_P D vwCl ws H → va_D A ws → va_S A H0 H locs → ws[q0]? = some (a, .inl (cA, n0, .inr (.inr (.inr (.inr f))))) → tys[t0]? = some (cA, ty) → ws[qk]? = some (v, .inr (ci, vs)) → ok t0 ci = true → vp_in i n0 →
      (∀ (H1 : Heap) (locs1 : List Loc), va_P D vwCl (ws.set q0 (a, .inl (cA, n0, .inr (.inr (.inr (.inr (va_up f i.toNatClampNeg (some v)))))))) H1 → va_D A (ws.set q0 (a, .inl (cA, n0, .inr (.inr (.inr (.inr (va_up f i.toNatClampNeg (some v)))))))) → va_S A H0 H1 locs1 → W p l e R s m args below meth c H1 locs1 nc ns Q (F0 m n ls rest)) → W p l e R s m args below meth c H locs nc ns Q (F0 m pc ls (.ref v :: .int i :: .ref a :: rest)))
    (h : z_sr ok n ivs nv lo sk hp nc ns = some q) (kk : ∀ z ∈ q, z_K p l e R s m args below meth c Q D tys A H0 nL ρ0 φ0 ad0 z.1 z.2) : z_K p l e R s m args below meth c Q D tys A H0 nL ρ0 φ0 ad0 pc (ivs, nv, lo, sk, hp, nc, ns) := by
  unfold z_sr at h
  split at h
  · rename_i v o k0 j o2 sk
    split at h
    · rename_i t es ci fs ec ev
      split at h
      · rename_i et
        have e1 := (z_and et).1
        have e2 := (z_and et).2
        cases h
        intro ρ φ ws lv st H locs ls hg
        obtain ⟨v3, st, rfl, hv3, hs⟩ := hg.sk.c1
        obtain ⟨v2, st, rfl, hv2, hs⟩ := hs.c1
        obtain ⟨v1, st, rfl, hv1, hs⟩ := hs.c1
        obtain ⟨i, rfl, hi⟩ := hv2
        obtain ⟨ad, ee, h1, rfl, h2⟩ := z_cell hg.hp hv1 ec
        obtain ⟨ad3, ee3, h13, rfl, h23⟩ := z_cell hg.hp hv3 ev
        obtain ⟨vs, rfl, -⟩ := h23
        have hin := z_ix_ok hg.iv hi e2
        have ei := z_v.const hg.zero hi
        have ek : k0.toNat = i.toNatClampNeg := by
          show k0.toNat = i.toInt.toNat
          rw [ei]
        obtain ⟨cA, ty, f, ht, rfl, hb⟩ := h2
        refine row ws H locs ls st ad j t es.length ad3 v ci cA ty f vs i hg.P hg.D hg.S h1 ht h13 e1 hin.1 (fun H1 locs1 hP hD hS => ?_)
        have hc : z_c tys ρ (φ ++ []) (z_ad ws) (.inr (.inr (t, es.set k0.toNat (2, v, o)))) (.inl (cA, es.length, .inr (.inr (.inr (.inr (va_up f i.toNatClampNeg (some ad3))))))) := by
          refine ⟨cA, ty, _, ht, by rw [List.length_set], fun jj a ha => ?_⟩
          rw [ek] at ha
          by_cases hj : i.toNatClampNeg = jj
          · subst hj
            rw [List.getElem?_set_self hin.2.1] at ha
            cases ha
            rw [va_up_self]
            exact ⟨ad3, z_ad_get h13, rfl⟩
          · rw [List.getElem?_set_ne hj] at ha
            rw [va_up_ne (Ne.symm hj)]
            exact hb jj a ha
        have hg' := (hg.stk hs).set h1 hc hP hD hS
        rw [List.append_nil] at hg'
        exact kk _ (List.mem_singleton.mpr rfl) ρ φ _ lv st H1 locs1 ls hg'
      · cases h
    · cases h
  · cases h
/-- a new cell of the world -/
theorem z_g.push {H1 : Heap} {a : Nat} {e1 : va_E} {cell : zC} {ps : List zP} {nc' ns' : Nat} (h : z_g D tys A H0 nL ρ0 φ0 ad0 (ivs, nv, lo, sk, hp, nc, ns) ρ φ ws lv st H locs ls) (hc : z_c tys ρ (φ ++ ps) (z_ad ws ++ [a]) cell e1) (hP : va_P D vwCl (ws ++ [(a, e1)]) H1) (hD : va_D A (ws ++ [(a, e1)])) (hS : va_S A H0 H1 locs) :
    z_g D tys A H0 nL ρ0 φ0 ad0 (ivs, nv + ps.length, lo, (2, hp.length, 0) :: sk, hp ++ [cell], nc', ns') ρ (φ ++ ps) (ws ++ [(a, e1)]) lv (.ref a :: st) H1 locs ls := by
  obtain ⟨⟨a1, a2, a3, a4⟩, b1, b2, b3, b4, b5, b6, b7, b8, b9⟩ := h
  have ead : z_ad (ws ++ [(a, e1)]) = z_ad ws ++ [a] := z_ad_app _ _
  have el : hp.length = (z_ad ws).length := by
    unfold z_ad
    rw [List.length_map]
    exact b5.len
  refine ⟨⟨a1, a2.trans (z_app_pre _ _), by rw [ead]; exact a3.trans (z_app_pre _ _), a4⟩, b1, by rw [List.length_append, b2], ?_, ⟨⟨a, ?_, rfl⟩, ?_⟩, ?_, hP, hD, hS, b9⟩
  · rw [ead]
    exact b3.mono (fun _ _ k => ⟨k.1, k.2.mono (List.prefix_refl _) (z_app_pre _ _)⟩)
  · rw [ead]
    exact z_last a el.symm
  · rw [ead]
    exact b4.mono (fun _ _ k => k.mono (List.prefix_refl _) (z_app_pre _ _))
  · rw [ead]
    exact z_F.app (l2 := [cell]) (k2 := [(a, e1)]) ⟨hc, trivial⟩ (b5.mono (fun _ _ k => z_c.mono (List.prefix_refl _) (z_app_pre _ _) (z_app_pre _ _) k))
end ZB
end
