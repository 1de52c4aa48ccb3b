-- ===== PART A: goes FIRST, ahead of the names: the tables' words, and 'selects' of the private methods out of them =====
/-- a private method of a class that the tables say can be made, by its rows of tables_1 -/
def lw_okq (q : MethodName × Nat) : Prop := (q.1.cls ≠ "java/lang/invoke/MethodHandle" ∧ q.1.cls ≠ "java/lang/invoke/VarHandle") ∧ Cond.instantiable q.1.cls q.2 ∈ tables_1 ∧ Cond.privateMethod q.1 ∈ tables_1 ∧ Cond.instanceMethod q.1 ∈ tables_1
theorem lw_p0 : lw_okq (⟨"WingPort$Reader", "next", "()V"⟩, 7) := ⟨⟨by decide +kernel, by decide +kernel⟩, List.mem_of_getElem? (i := 38) (by decide +kernel), List.mem_of_getElem? (i := 147) (by decide +kernel), List.mem_of_getElem? (i := 148) (by decide +kernel)⟩
theorem lw_p1 : lw_okq (⟨"WingPort$Reader", "readWord", "()V"⟩, 7) := ⟨⟨by decide +kernel, by decide +kernel⟩, List.mem_of_getElem? (i := 38) (by decide +kernel), List.mem_of_getElem? (i := 157) (by decide +kernel), List.mem_of_getElem? (i := 158) (by decide +kernel)⟩
theorem lw_p2 : lw_okq (⟨"WingPort$Reader", "wordOf", "(II)I"⟩, 7) := ⟨⟨by decide +kernel, by decide +kernel⟩, List.mem_of_getElem? (i := 38) (by decide +kernel), List.mem_of_getElem? (i := 161) (by decide +kernel), List.mem_of_getElem? (i := 162) (by decide +kernel)⟩
theorem lw_p3 : lw_okq (⟨"WingPort$Reader", "readNumber", "()V"⟩, 7) := ⟨⟨by decide +kernel, by decide +kernel⟩, List.mem_of_getElem? (i := 38) (by decide +kernel), List.mem_of_getElem? (i := 170) (by decide +kernel), List.mem_of_getElem? (i := 171) (by decide +kernel)⟩
theorem lw_p4 : lw_okq (⟨"WingPort$Reader", "isWord", "(I)Z"⟩, 7) := ⟨⟨by decide +kernel, by decide +kernel⟩, List.mem_of_getElem? (i := 38) (by decide +kernel), List.mem_of_getElem? (i := 234) (by decide +kernel), List.mem_of_getElem? (i := 235) (by decide +kernel)⟩
theorem lw_p5 : lw_okq (⟨"WingPort$Reader", "either", "(I)Z"⟩, 7) := ⟨⟨by decide +kernel, by decide +kernel⟩, List.mem_of_getElem? (i := 38) (by decide +kernel), List.mem_of_getElem? (i := 238) (by decide +kernel), List.mem_of_getElem? (i := 239) (by decide +kernel)⟩
theorem lw_p6 : lw_okq (⟨"WingPort$Reader", "both", "(I)Z"⟩, 7) := ⟨⟨by decide +kernel, by decide +kernel⟩, List.mem_of_getElem? (i := 38) (by decide +kernel), List.mem_of_getElem? (i := 242) (by decide +kernel), List.mem_of_getElem? (i := 243) (by decide +kernel)⟩
theorem lw_p7 : lw_okq (⟨"WingPort$Reader", "negated", "(I)Z"⟩, 7) := ⟨⟨by decide +kernel, by decide +kernel⟩, List.mem_of_getElem? (i := 38) (by decide +kernel), List.mem_of_getElem? (i := 246) (by decide +kernel), List.mem_of_getElem? (i := 247) (by decide +kernel)⟩
theorem lw_p8 : lw_okq (⟨"WingPort$Reader", "compared", "(I)Z"⟩, 7) := ⟨⟨by decide +kernel, by decide +kernel⟩, List.mem_of_getElem? (i := 38) (by decide +kernel), List.mem_of_getElem? (i := 250) (by decide +kernel), List.mem_of_getElem? (i := 251) (by decide +kernel)⟩
theorem lw_p9 : lw_okq (⟨"WingPort$Reader", "sum", "(I)Z"⟩, 7) := ⟨⟨by decide +kernel, by decide +kernel⟩, List.mem_of_getElem? (i := 38) (by decide +kernel), List.mem_of_getElem? (i := 254) (by decide +kernel), List.mem_of_getElem? (i := 255) (by decide +kernel)⟩
theorem lw_p10 : lw_okq (⟨"WingPort$Reader", "term", "(I)Z"⟩, 7) := ⟨⟨by decide +kernel, by decide +kernel⟩, List.mem_of_getElem? (i := 38) (by decide +kernel), List.mem_of_getElem? (i := 258) (by decide +kernel), List.mem_of_getElem? (i := 259) (by decide +kernel)⟩
theorem lw_p11 : lw_okq (⟨"WingPort$Reader", "one", "(I)Z"⟩, 7) := ⟨⟨by decide +kernel, by decide +kernel⟩, List.mem_of_getElem? (i := 38) (by decide +kernel), List.mem_of_getElem? (i := 262) (by decide +kernel), List.mem_of_getElem? (i := 263) (by decide +kernel)⟩
theorem lw_p12 : lw_okq (⟨"WingPort$Reader", "enclosed", "(I)Z"⟩, 7) := ⟨⟨by decide +kernel, by decide +kernel⟩, List.mem_of_getElem? (i := 38) (by decide +kernel), List.mem_of_getElem? (i := 270) (by decide +kernel), List.mem_of_getElem? (i := 271) (by decide +kernel)⟩
theorem lw_p13 : lw_okq (⟨"WingPort$Reader", "negative", "(I)Z"⟩, 7) := ⟨⟨by decide +kernel, by decide +kernel⟩, List.mem_of_getElem? (i := 38) (by decide +kernel), List.mem_of_getElem? (i := 274) (by decide +kernel), List.mem_of_getElem? (i := 275) (by decide +kernel)⟩
theorem lw_p14 : lw_okq (⟨"WingPort", "refusedAhead", "(II)I"⟩, 6) := ⟨⟨by decide +kernel, by decide +kernel⟩, List.mem_of_getElem? (i := 22) (by decide +kernel), List.mem_of_getElem? (i := 638) (by decide +kernel), List.mem_of_getElem? (i := 639) (by decide +kernel)⟩
theorem lw_p15 : lw_okq (⟨"WingPort$Port", "move", "(LWingPort$Visit;)V"⟩, 14) := ⟨⟨by decide +kernel, by decide +kernel⟩, List.mem_of_getElem? (i := 302) (by decide +kernel), List.mem_of_getElem? (i := 646) (by decide +kernel), List.mem_of_getElem? (i := 647) (by decide +kernel)⟩
def lw_privs_1 : List (MethodName × Nat) := [(⟨"WingPort$Reader", "next", "()V"⟩, 7), (⟨"WingPort$Reader", "readWord", "()V"⟩, 7), (⟨"WingPort$Reader", "wordOf", "(II)I"⟩, 7), (⟨"WingPort$Reader", "readNumber", "()V"⟩, 7), (⟨"WingPort$Reader", "isWord", "(I)Z"⟩, 7), (⟨"WingPort$Reader", "either", "(I)Z"⟩, 7), (⟨"WingPort$Reader", "both", "(I)Z"⟩, 7), (⟨"WingPort$Reader", "negated", "(I)Z"⟩, 7), (⟨"WingPort$Reader", "compared", "(I)Z"⟩, 7), (⟨"WingPort$Reader", "sum", "(I)Z"⟩, 7), (⟨"WingPort$Reader", "term", "(I)Z"⟩, 7), (⟨"WingPort$Reader", "one", "(I)Z"⟩, 7), (⟨"WingPort$Reader", "enclosed", "(I)Z"⟩, 7), (⟨"WingPort$Reader", "negative", "(I)Z"⟩, 7), (⟨"WingPort", "refusedAhead", "(II)I"⟩, 6), (⟨"WingPort$Port", "move", "(LWingPort$Visit;)V"⟩, 14)]
theorem lw_r1 : ∀ q ∈ lw_privs_1, lw_okq q := List.forall_mem_cons.mpr ⟨lw_p0, List.forall_mem_cons.mpr ⟨lw_p1, List.forall_mem_cons.mpr ⟨lw_p2, List.forall_mem_cons.mpr ⟨lw_p3, List.forall_mem_cons.mpr ⟨lw_p4, List.forall_mem_cons.mpr ⟨lw_p5, List.forall_mem_cons.mpr ⟨lw_p6, List.forall_mem_cons.mpr ⟨lw_p7, List.forall_mem_cons.mpr ⟨lw_p8, List.forall_mem_cons.mpr ⟨lw_p9, List.forall_mem_cons.mpr ⟨lw_p10, List.forall_mem_cons.mpr ⟨lw_p11, List.forall_mem_cons.mpr ⟨lw_p12, List.forall_mem_cons.mpr ⟨lw_p13, List.forall_mem_cons.mpr ⟨lw_p14, List.forall_mem_cons.mpr ⟨lw_p15, fun _ h => absurd h List.not_mem_nil⟩⟩⟩⟩⟩⟩⟩⟩⟩⟩⟩⟩⟩⟩⟩⟩
theorem lw_p16 : lw_okq (⟨"WingPort$Port", "work", "(I)V"⟩, 14) := ⟨⟨by decide +kernel, by decide +kernel⟩, List.mem_of_getElem? (i := 302) (by decide +kernel), List.mem_of_getElem? (i := 660) (by decide +kernel), List.mem_of_getElem? (i := 661) (by decide +kernel)⟩
theorem lw_p17 : lw_okq (⟨"WingPort$Port", "finish", "(II)V"⟩, 14) := ⟨⟨by decide +kernel, by decide +kernel⟩, List.mem_of_getElem? (i := 302) (by decide +kernel), List.mem_of_getElem? (i := 668) (by decide +kernel), List.mem_of_getElem? (i := 669) (by decide +kernel)⟩
theorem lw_p18 : lw_okq (⟨"WingPort$Port", "sendCarts", "(I)V"⟩, 14) := ⟨⟨by decide +kernel, by decide +kernel⟩, List.mem_of_getElem? (i := 302) (by decide +kernel), List.mem_of_getElem? (i := 681) (by decide +kernel), List.mem_of_getElem? (i := 682) (by decide +kernel)⟩
theorem lw_p19 : lw_okq (⟨"WingPort$Port", "carry", "(LWingPort$Feed;)V"⟩, 14) := ⟨⟨by decide +kernel, by decide +kernel⟩, List.mem_of_getElem? (i := 302) (by decide +kernel), List.mem_of_getElem? (i := 686) (by decide +kernel), List.mem_of_getElem? (i := 687) (by decide +kernel)⟩
theorem lw_p20 : lw_okq (⟨"WingPort$Port", "serve", "(I)V"⟩, 14) := ⟨⟨by decide +kernel, by decide +kernel⟩, List.mem_of_getElem? (i := 302) (by decide +kernel), List.mem_of_getElem? (i := 694) (by decide +kernel), List.mem_of_getElem? (i := 695) (by decide +kernel)⟩
theorem lw_p21 : lw_okq (⟨"WingPort$Port", "isNothing", "(LWingPort$Visit;I)Z"⟩, 14) := ⟨⟨by decide +kernel, by decide +kernel⟩, List.mem_of_getElem? (i := 302) (by decide +kernel), List.mem_of_getElem? (i := 707) (by decide +kernel), List.mem_of_getElem? (i := 708) (by decide +kernel)⟩
theorem lw_p22 : lw_okq (⟨"WingPort$Port", "hindrance", "(II)I"⟩, 14) := ⟨⟨by decide +kernel, by decide +kernel⟩, List.mem_of_getElem? (i := 302) (by decide +kernel), List.mem_of_getElem? (i := 716) (by decide +kernel), List.mem_of_getElem? (i := 717) (by decide +kernel)⟩
theorem lw_p23 : lw_okq (⟨"WingPort$Port", "waitsForBags", "(I)Z"⟩, 14) := ⟨⟨by decide +kernel, by decide +kernel⟩, List.mem_of_getElem? (i := 302) (by decide +kernel), List.mem_of_getElem? (i := 720) (by decide +kernel), List.mem_of_getElem? (i := 721) (by decide +kernel)⟩
theorem lw_p24 : lw_okq (⟨"WingPort$Port", "openFeeds", "(I)I"⟩, 14) := ⟨⟨by decide +kernel, by decide +kernel⟩, List.mem_of_getElem? (i := 302) (by decide +kernel), List.mem_of_getElem? (i := 724) (by decide +kernel), List.mem_of_getElem? (i := 725) (by decide +kernel)⟩
theorem lw_p25 : lw_okq (⟨"WingPort$Port", "startNow", "(LWingPort$Visit;I)V"⟩, 14) := ⟨⟨by decide +kernel, by decide +kernel⟩, List.mem_of_getElem? (i := 302) (by decide +kernel), List.mem_of_getElem? (i := 744) (by decide +kernel), List.mem_of_getElem? (i := 745) (by decide +kernel)⟩
theorem lw_p26 : lw_okq (⟨"WingPort$Port", "iceAgain", "(LWingPort$Visit;)V"⟩, 14) := ⟨⟨by decide +kernel, by decide +kernel⟩, List.mem_of_getElem? (i := 302) (by decide +kernel), List.mem_of_getElem? (i := 753) (by decide +kernel), List.mem_of_getElem? (i := 754) (by decide +kernel)⟩
theorem lw_p27 : lw_okq (⟨"WingPort$Port", "bestFor", "(I)I"⟩, 14) := ⟨⟨by decide +kernel, by decide +kernel⟩, List.mem_of_getElem? (i := 302) (by decide +kernel), List.mem_of_getElem? (i := 761) (by decide +kernel), List.mem_of_getElem? (i := 762) (by decide +kernel)⟩
theorem lw_p28 : lw_okq (⟨"WingPort$Port", "isReady", "(II)Z"⟩, 14) := ⟨⟨by decide +kernel, by decide +kernel⟩, List.mem_of_getElem? (i := 302) (by decide +kernel), List.mem_of_getElem? (i := 765) (by decide +kernel), List.mem_of_getElem? (i := 766) (by decide +kernel)⟩
theorem lw_p29 : lw_okq (⟨"WingPort$Port", "standFor", "(LWingPort$Visit;)I"⟩, 14) := ⟨⟨by decide +kernel, by decide +kernel⟩, List.mem_of_getElem? (i := 302) (by decide +kernel), List.mem_of_getElem? (i := 769) (by decide +kernel), List.mem_of_getElem? (i := 770) (by decide +kernel)⟩
theorem lw_p30 : lw_okq (⟨"WingPort$Port", "isReadyToLeave", "(LWingPort$Visit;)Z"⟩, 14) := ⟨⟨by decide +kernel, by decide +kernel⟩, List.mem_of_getElem? (i := 302) (by decide +kernel), List.mem_of_getElem? (i := 773) (by decide +kernel), List.mem_of_getElem? (i := 774) (by decide +kernel)⟩
theorem lw_p31 : lw_okq (⟨"WingPort$Port", "giveRunway", "(II)V"⟩, 14) := ⟨⟨by decide +kernel, by decide +kernel⟩, List.mem_of_getElem? (i := 302) (by decide +kernel), List.mem_of_getElem? (i := 777) (by decide +kernel), List.mem_of_getElem? (i := 778) (by decide +kernel)⟩
def lw_privs_2 : List (MethodName × Nat) := [(⟨"WingPort$Port", "work", "(I)V"⟩, 14), (⟨"WingPort$Port", "finish", "(II)V"⟩, 14), (⟨"WingPort$Port", "sendCarts", "(I)V"⟩, 14), (⟨"WingPort$Port", "carry", "(LWingPort$Feed;)V"⟩, 14), (⟨"WingPort$Port", "serve", "(I)V"⟩, 14), (⟨"WingPort$Port", "isNothing", "(LWingPort$Visit;I)Z"⟩, 14), (⟨"WingPort$Port", "hindrance", "(II)I"⟩, 14), (⟨"WingPort$Port", "waitsForBags", "(I)Z"⟩, 14), (⟨"WingPort$Port", "openFeeds", "(I)I"⟩, 14), (⟨"WingPort$Port", "startNow", "(LWingPort$Visit;I)V"⟩, 14), (⟨"WingPort$Port", "iceAgain", "(LWingPort$Visit;)V"⟩, 14), (⟨"WingPort$Port", "bestFor", "(I)I"⟩, 14), (⟨"WingPort$Port", "isReady", "(II)Z"⟩, 14), (⟨"WingPort$Port", "standFor", "(LWingPort$Visit;)I"⟩, 14), (⟨"WingPort$Port", "isReadyToLeave", "(LWingPort$Visit;)Z"⟩, 14), (⟨"WingPort$Port", "giveRunway", "(II)V"⟩, 14)]
theorem lw_r2 : ∀ q ∈ lw_privs_2, lw_okq q := List.forall_mem_cons.mpr ⟨lw_p16, List.forall_mem_cons.mpr ⟨lw_p17, List.forall_mem_cons.mpr ⟨lw_p18, List.forall_mem_cons.mpr ⟨lw_p19, List.forall_mem_cons.mpr ⟨lw_p20, List.forall_mem_cons.mpr ⟨lw_p21, List.forall_mem_cons.mpr ⟨lw_p22, List.forall_mem_cons.mpr ⟨lw_p23, List.forall_mem_cons.mpr ⟨lw_p24, List.forall_mem_cons.mpr ⟨lw_p25, List.forall_mem_cons.mpr ⟨lw_p26, List.forall_mem_cons.mpr ⟨lw_p27, List.forall_mem_cons.mpr ⟨lw_p28, List.forall_mem_cons.mpr ⟨lw_p29, List.forall_mem_cons.mpr ⟨lw_p30, List.forall_mem_cons.mpr ⟨lw_p31, fun _ h => absurd h List.not_mem_nil⟩⟩⟩⟩⟩⟩⟩⟩⟩⟩⟩⟩⟩⟩⟩⟩
theorem lw_p32 : lw_okq (⟨"WingPort$Port", "blame", "(LWingPort$Visit;)V"⟩, 14) := ⟨⟨by decide +kernel, by decide +kernel⟩, List.mem_of_getElem? (i := 302) (by decide +kernel), List.mem_of_getElem? (i := 782) (by decide +kernel), List.mem_of_getElem? (i := 783) (by decide +kernel)⟩
theorem lw_p33 : lw_okq (⟨"WingPort$Port", "causeNow", "(LWingPort$Visit;)I"⟩, 14) := ⟨⟨by decide +kernel, by decide +kernel⟩, List.mem_of_getElem? (i := 302) (by decide +kernel), List.mem_of_getElem? (i := 786) (by decide +kernel), List.mem_of_getElem? (i := 787) (by decide +kernel)⟩
theorem lw_p34 : lw_okq (⟨"WingPort$Port", "causeOfRunways", "()I"⟩, 14) := ⟨⟨by decide +kernel, by decide +kernel⟩, List.mem_of_getElem? (i := 302) (by decide +kernel), List.mem_of_getElem? (i := 790) (by decide +kernel), List.mem_of_getElem? (i := 791) (by decide +kernel)⟩
theorem lw_p35 : lw_okq (⟨"WingPort$Port", "howMany", "(I)I"⟩, 14) := ⟨⟨by decide +kernel, by decide +kernel⟩, List.mem_of_getElem? (i := 302) (by decide +kernel), List.mem_of_getElem? (i := 876) (by decide +kernel), List.mem_of_getElem? (i := 877) (by decide +kernel)⟩
theorem lw_p36 : lw_okq (⟨"WingPort", "refusedPlan", "(II)I"⟩, 6) := ⟨⟨by decide +kernel, by decide +kernel⟩, List.mem_of_getElem? (i := 22) (by decide +kernel), List.mem_of_getElem? (i := 888) (by decide +kernel), List.mem_of_getElem? (i := 889) (by decide +kernel)⟩
theorem lw_p37 : lw_okq (⟨"WingPort", "areAhead", "(I)Z"⟩, 6) := ⟨⟨by decide +kernel, by decide +kernel⟩, List.mem_of_getElem? (i := 22) (by decide +kernel), List.mem_of_getElem? (i := 898) (by decide +kernel), List.mem_of_getElem? (i := 899) (by decide +kernel)⟩
theorem lw_p38 : lw_okq (⟨"WingPort", "lowest", "(I)I"⟩, 6) := ⟨⟨by decide +kernel, by decide +kernel⟩, List.mem_of_getElem? (i := 22) (by decide +kernel), List.mem_of_getElem? (i := 902) (by decide +kernel), List.mem_of_getElem? (i := 903) (by decide +kernel)⟩
theorem lw_p39 : lw_okq (⟨"WingPort", "lateWith", "(IIIII)I"⟩, 6) := ⟨⟨by decide +kernel, by decide +kernel⟩, List.mem_of_getElem? (i := 22) (by decide +kernel), List.mem_of_getElem? (i := 906) (by decide +kernel), List.mem_of_getElem? (i := 907) (by decide +kernel)⟩
theorem lw_p40 : lw_okq (⟨"WingPort", "thereBy", "(II)I"⟩, 6) := ⟨⟨by decide +kernel, by decide +kernel⟩, List.mem_of_getElem? (i := 22) (by decide +kernel), List.mem_of_getElem? (i := 943) (by decide +kernel), List.mem_of_getElem? (i := 944) (by decide +kernel)⟩
theorem lw_p41 : lw_okq (⟨"WingPort", "cartThereBy", "(LWingPort$Feed;I)I"⟩, 6) := ⟨⟨by decide +kernel, by decide +kernel⟩, List.mem_of_getElem? (i := 22) (by decide +kernel), List.mem_of_getElem? (i := 968) (by decide +kernel), List.mem_of_getElem? (i := 969) (by decide +kernel)⟩
theorem lw_p42 : lw_okq (⟨"WingPort", "visitsOf", "(LWingPort$Sheet;II)I"⟩, 6) := ⟨⟨by decide +kernel, by decide +kernel⟩, List.mem_of_getElem? (i := 22) (by decide +kernel), List.mem_of_getElem? (i := 1039) (by decide +kernel), List.mem_of_getElem? (i := 1040) (by decide +kernel)⟩
theorem lw_p43 : lw_okq (⟨"WingPortModel", "isVisit", "(I)Z"⟩, 37) := ⟨⟨by decide +kernel, by decide +kernel⟩, List.mem_of_getElem? (i := 1054) (by decide +kernel), List.mem_of_getElem? (i := 1207) (by decide +kernel), List.mem_of_getElem? (i := 1208) (by decide +kernel)⟩
theorem lw_p44 : lw_okq (⟨"WingPortModel", "of", "(II)I"⟩, 37) := ⟨⟨by decide +kernel, by decide +kernel⟩, List.mem_of_getElem? (i := 1054) (by decide +kernel), List.mem_of_getElem? (i := 1211) (by decide +kernel), List.mem_of_getElem? (i := 1212) (by decide +kernel)⟩
theorem lw_p45 : lw_okq (⟨"WingPortModel", "isStand", "(I)Z"⟩, 37) := ⟨⟨by decide +kernel, by decide +kernel⟩, List.mem_of_getElem? (i := 1054) (by decide +kernel), List.mem_of_getElem? (i := 1219) (by decide +kernel), List.mem_of_getElem? (i := 1220) (by decide +kernel)⟩
theorem lw_p46 : lw_okq (⟨"WingPortModel", "isAhead", "(I)Z"⟩, 37) := ⟨⟨by decide +kernel, by decide +kernel⟩, List.mem_of_getElem? (i := 1054) (by decide +kernel), List.mem_of_getElem? (i := 1223) (by decide +kernel), List.mem_of_getElem? (i := 1224) (by decide +kernel)⟩
theorem lw_p47 : lw_okq (⟨"WingPortModel", "next", "()V"⟩, 37) := ⟨⟨by decide +kernel, by decide +kernel⟩, List.mem_of_getElem? (i := 1054) (by decide +kernel), List.mem_of_getElem? (i := 1240) (by decide +kernel), List.mem_of_getElem? (i := 1241) (by decide +kernel)⟩
def lw_privs_3 : List (MethodName × Nat) := [(⟨"WingPort$Port", "blame", "(LWingPort$Visit;)V"⟩, 14), (⟨"WingPort$Port", "causeNow", "(LWingPort$Visit;)I"⟩, 14), (⟨"WingPort$Port", "causeOfRunways", "()I"⟩, 14), (⟨"WingPort$Port", "howMany", "(I)I"⟩, 14), (⟨"WingPort", "refusedPlan", "(II)I"⟩, 6), (⟨"WingPort", "areAhead", "(I)Z"⟩, 6), (⟨"WingPort", "lowest", "(I)I"⟩, 6), (⟨"WingPort", "lateWith", "(IIIII)I"⟩, 6), (⟨"WingPort", "thereBy", "(II)I"⟩, 6), (⟨"WingPort", "cartThereBy", "(LWingPort$Feed;I)I"⟩, 6), (⟨"WingPort", "visitsOf", "(LWingPort$Sheet;II)I"⟩, 6), (⟨"WingPortModel", "isVisit", "(I)Z"⟩, 37), (⟨"WingPortModel", "of", "(II)I"⟩, 37), (⟨"WingPortModel", "isStand", "(I)Z"⟩, 37), (⟨"WingPortModel", "isAhead", "(I)Z"⟩, 37), (⟨"WingPortModel", "next", "()V"⟩, 37)]
theorem lw_r3 : ∀ q ∈ lw_privs_3, lw_okq q := List.forall_mem_cons.mpr ⟨lw_p32, List.forall_mem_cons.mpr ⟨lw_p33, List.forall_mem_cons.mpr ⟨lw_p34, List.forall_mem_cons.mpr ⟨lw_p35, List.forall_mem_cons.mpr ⟨lw_p36, List.forall_mem_cons.mpr ⟨lw_p37, List.forall_mem_cons.mpr ⟨lw_p38, List.forall_mem_cons.mpr ⟨lw_p39, List.forall_mem_cons.mpr ⟨lw_p40, List.forall_mem_cons.mpr ⟨lw_p41, List.forall_mem_cons.mpr ⟨lw_p42, List.forall_mem_cons.mpr ⟨lw_p43, List.forall_mem_cons.mpr ⟨lw_p44, List.forall_mem_cons.mpr ⟨lw_p45, List.forall_mem_cons.mpr ⟨lw_p46, List.forall_mem_cons.mpr ⟨lw_p47, fun _ h => absurd h List.not_mem_nil⟩⟩⟩⟩⟩⟩⟩⟩⟩⟩⟩⟩⟩⟩⟩⟩
theorem lw_p48 : lw_okq (⟨"WingPortModel", "letters", "()I"⟩, 37) := ⟨⟨by decide +kernel, by decide +kernel⟩, List.mem_of_getElem? (i := 1054) (by decide +kernel), List.mem_of_getElem? (i := 1244) (by decide +kernel), List.mem_of_getElem? (i := 1245) (by decide +kernel)⟩
theorem lw_p49 : lw_okq (⟨"WingPortModel", "eRead", "()Z"⟩, 37) := ⟨⟨by decide +kernel, by decide +kernel⟩, List.mem_of_getElem? (i := 1054) (by decide +kernel), List.mem_of_getElem? (i := 1248) (by decide +kernel), List.mem_of_getElem? (i := 1249) (by decide +kernel)⟩
theorem lw_p50 : lw_okq (⟨"WingPortModel", "puts", "(I)V"⟩, 37) := ⟨⟨by decide +kernel, by decide +kernel⟩, List.mem_of_getElem? (i := 1054) (by decide +kernel), List.mem_of_getElem? (i := 1252) (by decide +kernel), List.mem_of_getElem? (i := 1253) (by decide +kernel)⟩
theorem lw_p51 : lw_okq (⟨"WingPortModel", "unwinds", "(I)V"⟩, 37) := ⟨⟨by decide +kernel, by decide +kernel⟩, List.mem_of_getElem? (i := 1054) (by decide +kernel), List.mem_of_getElem? (i := 1256) (by decide +kernel), List.mem_of_getElem? (i := 1257) (by decide +kernel)⟩
theorem lw_p52 : lw_okq (⟨"WingPortModel", "opensOne", "(I)Z"⟩, 37) := ⟨⟨by decide +kernel, by decide +kernel⟩, List.mem_of_getElem? (i := 1054) (by decide +kernel), List.mem_of_getElem? (i := 1263) (by decide +kernel), List.mem_of_getElem? (i := 1264) (by decide +kernel)⟩
theorem lw_p53 : lw_okq (⟨"WingPortModel", "holds", "(I)V"⟩, 37) := ⟨⟨by decide +kernel, by decide +kernel⟩, List.mem_of_getElem? (i := 1054) (by decide +kernel), List.mem_of_getElem? (i := 1267) (by decide +kernel), List.mem_of_getElem? (i := 1268) (by decide +kernel)⟩
theorem lw_p54 : lw_okq (⟨"WingPortModel", "signOf", "()I"⟩, 37) := ⟨⟨by decide +kernel, by decide +kernel⟩, List.mem_of_getElem? (i := 1054) (by decide +kernel), List.mem_of_getElem? (i := 1271) (by decide +kernel), List.mem_of_getElem? (i := 1272) (by decide +kernel)⟩
theorem lw_p55 : lw_okq (⟨"WingPortModel", "between", "(I)Z"⟩, 37) := ⟨⟨by decide +kernel, by decide +kernel⟩, List.mem_of_getElem? (i := 1054) (by decide +kernel), List.mem_of_getElem? (i := 1275) (by decide +kernel), List.mem_of_getElem? (i := 1276) (by decide +kernel)⟩
theorem lw_p56 : lw_okq (⟨"WingPortModel", "worth", "(III)I"⟩, 37) := ⟨⟨by decide +kernel, by decide +kernel⟩, List.mem_of_getElem? (i := 1054) (by decide +kernel), List.mem_of_getElem? (i := 1287) (by decide +kernel), List.mem_of_getElem? (i := 1288) (by decide +kernel)⟩
theorem lw_p57 : lw_okq (⟨"WingPortModel", "named", "(III)I"⟩, 37) := ⟨⟨by decide +kernel, by decide +kernel⟩, List.mem_of_getElem? (i := 1054) (by decide +kernel), List.mem_of_getElem? (i := 1291) (by decide +kernel), List.mem_of_getElem? (i := 1292) (by decide +kernel)⟩
theorem lw_p58 : lw_okq (⟨"WingPortModel", "bagsTo", "(I)I"⟩, 37) := ⟨⟨by decide +kernel, by decide +kernel⟩, List.mem_of_getElem? (i := 1054) (by decide +kernel), List.mem_of_getElem? (i := 1295) (by decide +kernel), List.mem_of_getElem? (i := 1296) (by decide +kernel)⟩
theorem lw_p59 : lw_okq (⟨"WingPortModel", "limit", "(I)I"⟩, 37) := ⟨⟨by decide +kernel, by decide +kernel⟩, List.mem_of_getElem? (i := 1054) (by decide +kernel), List.mem_of_getElem? (i := 1299) (by decide +kernel), List.mem_of_getElem? (i := 1300) (by decide +kernel)⟩
theorem lw_p60 : lw_okq (⟨"WingPortModel", "come", "(I)I"⟩, 37) := ⟨⟨by decide +kernel, by decide +kernel⟩, List.mem_of_getElem? (i := 1054) (by decide +kernel), List.mem_of_getElem? (i := 1303) (by decide +kernel), List.mem_of_getElem? (i := 1304) (by decide +kernel)⟩
theorem lw_p61 : lw_okq (⟨"WingPortModel", "ticks", "()V"⟩, 37) := ⟨⟨by decide +kernel, by decide +kernel⟩, List.mem_of_getElem? (i := 1054) (by decide +kernel), List.mem_of_getElem? (i := 1315) (by decide +kernel), List.mem_of_getElem? (i := 1316) (by decide +kernel)⟩
theorem lw_p62 : lw_okq (⟨"WingPortModel", "goesOn", "(I)V"⟩, 37) := ⟨⟨by decide +kernel, by decide +kernel⟩, List.mem_of_getElem? (i := 1054) (by decide +kernel), List.mem_of_getElem? (i := 1319) (by decide +kernel), List.mem_of_getElem? (i := 1320) (by decide +kernel)⟩
theorem lw_p63 : lw_okq (⟨"WingPortModel", "becomes", "(II)V"⟩, 37) := ⟨⟨by decide +kernel, by decide +kernel⟩, List.mem_of_getElem? (i := 1054) (by decide +kernel), List.mem_of_getElem? (i := 1323) (by decide +kernel), List.mem_of_getElem? (i := 1324) (by decide +kernel)⟩
def lw_privs_4 : List (MethodName × Nat) := [(⟨"WingPortModel", "letters", "()I"⟩, 37), (⟨"WingPortModel", "eRead", "()Z"⟩, 37), (⟨"WingPortModel", "puts", "(I)V"⟩, 37), (⟨"WingPortModel", "unwinds", "(I)V"⟩, 37), (⟨"WingPortModel", "opensOne", "(I)Z"⟩, 37), (⟨"WingPortModel", "holds", "(I)V"⟩, 37), (⟨"WingPortModel", "signOf", "()I"⟩, 37), (⟨"WingPortModel", "between", "(I)Z"⟩, 37), (⟨"WingPortModel", "worth", "(III)I"⟩, 37), (⟨"WingPortModel", "named", "(III)I"⟩, 37), (⟨"WingPortModel", "bagsTo", "(I)I"⟩, 37), (⟨"WingPortModel", "limit", "(I)I"⟩, 37), (⟨"WingPortModel", "come", "(I)I"⟩, 37), (⟨"WingPortModel", "ticks", "()V"⟩, 37), (⟨"WingPortModel", "goesOn", "(I)V"⟩, 37), (⟨"WingPortModel", "becomes", "(II)V"⟩, 37)]
theorem lw_r4 : ∀ q ∈ lw_privs_4, lw_okq q := List.forall_mem_cons.mpr ⟨lw_p48, List.forall_mem_cons.mpr ⟨lw_p49, List.forall_mem_cons.mpr ⟨lw_p50, List.forall_mem_cons.mpr ⟨lw_p51, List.forall_mem_cons.mpr ⟨lw_p52, List.forall_mem_cons.mpr ⟨lw_p53, List.forall_mem_cons.mpr ⟨lw_p54, List.forall_mem_cons.mpr ⟨lw_p55, List.forall_mem_cons.mpr ⟨lw_p56, List.forall_mem_cons.mpr ⟨lw_p57, List.forall_mem_cons.mpr ⟨lw_p58, List.forall_mem_cons.mpr ⟨lw_p59, List.forall_mem_cons.mpr ⟨lw_p60, List.forall_mem_cons.mpr ⟨lw_p61, List.forall_mem_cons.mpr ⟨lw_p62, List.forall_mem_cons.mpr ⟨lw_p63, fun _ h => absurd h List.not_mem_nil⟩⟩⟩⟩⟩⟩⟩⟩⟩⟩⟩⟩⟩⟩⟩⟩
theorem lw_p64 : lw_okq (⟨"WingPortModel", "works", "(I)V"⟩, 37) := ⟨⟨by decide +kernel, by decide +kernel⟩, List.mem_of_getElem? (i := 1054) (by decide +kernel), List.mem_of_getElem? (i := 1327) (by decide +kernel), List.mem_of_getElem? (i := 1328) (by decide +kernel)⟩
theorem lw_p65 : lw_okq (⟨"WingPortModel", "isDoneNow", "(II)V"⟩, 37) := ⟨⟨by decide +kernel, by decide +kernel⟩, List.mem_of_getElem? (i := 1054) (by decide +kernel), List.mem_of_getElem? (i := 1331) (by decide +kernel), List.mem_of_getElem? (i := 1332) (by decide +kernel)⟩
theorem lw_p66 : lw_okq (⟨"WingPortModel", "feedGoes", "(I)V"⟩, 37) := ⟨⟨by decide +kernel, by decide +kernel⟩, List.mem_of_getElem? (i := 1054) (by decide +kernel), List.mem_of_getElem? (i := 1335) (by decide +kernel), List.mem_of_getElem? (i := 1336) (by decide +kernel)⟩
theorem lw_p67 : lw_okq (⟨"WingPortModel", "isDone", "(II)Z"⟩, 37) := ⟨⟨by decide +kernel, by decide +kernel⟩, List.mem_of_getElem? (i := 1054) (by decide +kernel), List.mem_of_getElem? (i := 1339) (by decide +kernel), List.mem_of_getElem? (i := 1340) (by decide +kernel)⟩
theorem lw_p68 : lw_okq (⟨"WingPortModel", "serves", "(I)V"⟩, 37) := ⟨⟨by decide +kernel, by decide +kernel⟩, List.mem_of_getElem? (i := 1054) (by decide +kernel), List.mem_of_getElem? (i := 1343) (by decide +kernel), List.mem_of_getElem? (i := 1344) (by decide +kernel)⟩
theorem lw_p69 : lw_okq (⟨"WingPortModel", "ticksOf", "(II)I"⟩, 37) := ⟨⟨by decide +kernel, by decide +kernel⟩, List.mem_of_getElem? (i := 1054) (by decide +kernel), List.mem_of_getElem? (i := 1347) (by decide +kernel), List.mem_of_getElem? (i := 1348) (by decide +kernel)⟩
theorem lw_p70 : lw_okq (⟨"WingPortModel", "hindrance", "(II)I"⟩, 37) := ⟨⟨by decide +kernel, by decide +kernel⟩, List.mem_of_getElem? (i := 1054) (by decide +kernel), List.mem_of_getElem? (i := 1351) (by decide +kernel), List.mem_of_getElem? (i := 1352) (by decide +kernel)⟩
theorem lw_p71 : lw_okq (⟨"WingPortModel", "atLeast0", "(III)I"⟩, 37) := ⟨⟨by decide +kernel, by decide +kernel⟩, List.mem_of_getElem? (i := 1054) (by decide +kernel), List.mem_of_getElem? (i := 1355) (by decide +kernel), List.mem_of_getElem? (i := 1356) (by decide +kernel)⟩
theorem lw_p72 : lw_okq (⟨"WingPortModel", "isFree", "(I)Z"⟩, 37) := ⟨⟨by decide +kernel, by decide +kernel⟩, List.mem_of_getElem? (i := 1054) (by decide +kernel), List.mem_of_getElem? (i := 1359) (by decide +kernel), List.mem_of_getElem? (i := 1360) (by decide +kernel)⟩
theorem lw_p73 : lw_okq (⟨"WingPortModel", "begins", "(II)V"⟩, 37) := ⟨⟨by decide +kernel, by decide +kernel⟩, List.mem_of_getElem? (i := 1054) (by decide +kernel), List.mem_of_getElem? (i := 1363) (by decide +kernel), List.mem_of_getElem? (i := 1364) (by decide +kernel)⟩
theorem lw_p74 : lw_okq (⟨"WingPortModel", "needsIce", "(I)Z"⟩, 37) := ⟨⟨by decide +kernel, by decide +kernel⟩, List.mem_of_getElem? (i := 1054) (by decide +kernel), List.mem_of_getElem? (i := 1367) (by decide +kernel), List.mem_of_getElem? (i := 1368) (by decide +kernel)⟩
theorem lw_p75 : lw_okq (⟨"WingPortModel", "uses", "(I)V"⟩, 37) := ⟨⟨by decide +kernel, by decide +kernel⟩, List.mem_of_getElem? (i := 1054) (by decide +kernel), List.mem_of_getElem? (i := 1371) (by decide +kernel), List.mem_of_getElem? (i := 1372) (by decide +kernel)⟩
theorem lw_p76 : lw_okq (⟨"WingPortModel", "isReady", "(II)Z"⟩, 37) := ⟨⟨by decide +kernel, by decide +kernel⟩, List.mem_of_getElem? (i := 1054) (by decide +kernel), List.mem_of_getElem? (i := 1375) (by decide +kernel), List.mem_of_getElem? (i := 1376) (by decide +kernel)⟩
theorem lw_p77 : lw_okq (⟨"WingPortModel", "standFor", "(I)I"⟩, 37) := ⟨⟨by decide +kernel, by decide +kernel⟩, List.mem_of_getElem? (i := 1054) (by decide +kernel), List.mem_of_getElem? (i := 1379) (by decide +kernel), List.mem_of_getElem? (i := 1380) (by decide +kernel)⟩
theorem lw_p78 : lw_okq (⟨"WingPortModel", "causeOf", "(I)I"⟩, 37) := ⟨⟨by decide +kernel, by decide +kernel⟩, List.mem_of_getElem? (i := 1054) (by decide +kernel), List.mem_of_getElem? (i := 1383) (by decide +kernel), List.mem_of_getElem? (i := 1384) (by decide +kernel)⟩
theorem lw_p79 : lw_okq (⟨"WingPortModel", "lateOf", "(I)I"⟩, 37) := ⟨⟨by decide +kernel, by decide +kernel⟩, List.mem_of_getElem? (i := 1054) (by decide +kernel), List.mem_of_getElem? (i := 1391) (by decide +kernel), List.mem_of_getElem? (i := 1392) (by decide +kernel)⟩
def lw_privs_5 : List (MethodName × Nat) := [(⟨"WingPortModel", "works", "(I)V"⟩, 37), (⟨"WingPortModel", "isDoneNow", "(II)V"⟩, 37), (⟨"WingPortModel", "feedGoes", "(I)V"⟩, 37), (⟨"WingPortModel", "isDone", "(II)Z"⟩, 37), (⟨"WingPortModel", "serves", "(I)V"⟩, 37), (⟨"WingPortModel", "ticksOf", "(II)I"⟩, 37), (⟨"WingPortModel", "hindrance", "(II)I"⟩, 37), (⟨"WingPortModel", "atLeast0", "(III)I"⟩, 37), (⟨"WingPortModel", "isFree", "(I)Z"⟩, 37), (⟨"WingPortModel", "begins", "(II)V"⟩, 37), (⟨"WingPortModel", "needsIce", "(I)Z"⟩, 37), (⟨"WingPortModel", "uses", "(I)V"⟩, 37), (⟨"WingPortModel", "isReady", "(II)Z"⟩, 37), (⟨"WingPortModel", "standFor", "(I)I"⟩, 37), (⟨"WingPortModel", "causeOf", "(I)I"⟩, 37), (⟨"WingPortModel", "lateOf", "(I)I"⟩, 37)]
theorem lw_r5 : ∀ q ∈ lw_privs_5, lw_okq q := List.forall_mem_cons.mpr ⟨lw_p64, List.forall_mem_cons.mpr ⟨lw_p65, List.forall_mem_cons.mpr ⟨lw_p66, List.forall_mem_cons.mpr ⟨lw_p67, List.forall_mem_cons.mpr ⟨lw_p68, List.forall_mem_cons.mpr ⟨lw_p69, List.forall_mem_cons.mpr ⟨lw_p70, List.forall_mem_cons.mpr ⟨lw_p71, List.forall_mem_cons.mpr ⟨lw_p72, List.forall_mem_cons.mpr ⟨lw_p73, List.forall_mem_cons.mpr ⟨lw_p74, List.forall_mem_cons.mpr ⟨lw_p75, List.forall_mem_cons.mpr ⟨lw_p76, List.forall_mem_cons.mpr ⟨lw_p77, List.forall_mem_cons.mpr ⟨lw_p78, List.forall_mem_cons.mpr ⟨lw_p79, fun _ h => absurd h List.not_mem_nil⟩⟩⟩⟩⟩⟩⟩⟩⟩⟩⟩⟩⟩⟩⟩⟩
theorem lw_p80 : lw_okq (⟨"WingPortModel", "lays", "(Z)V"⟩, 37) := ⟨⟨by decide +kernel, by decide +kernel⟩, List.mem_of_getElem? (i := 1054) (by decide +kernel), List.mem_of_getElem? (i := 1427) (by decide +kernel), List.mem_of_getElem? (i := 1428) (by decide +kernel)⟩
theorem lw_p81 : lw_okq (⟨"WingPortModel", "outcome", "(I)I"⟩, 37) := ⟨⟨by decide +kernel, by decide +kernel⟩, List.mem_of_getElem? (i := 1054) (by decide +kernel), List.mem_of_getElem? (i := 1431) (by decide +kernel), List.mem_of_getElem? (i := 1432) (by decide +kernel)⟩
theorem lw_p82 : lw_okq (⟨"WingPortModel", "lateOfAll", "()I"⟩, 37) := ⟨⟨by decide +kernel, by decide +kernel⟩, List.mem_of_getElem? (i := 1054) (by decide +kernel), List.mem_of_getElem? (i := 1435) (by decide +kernel), List.mem_of_getElem? (i := 1436) (by decide +kernel)⟩
theorem lw_p83 : lw_okq (⟨"WingPortModel", "missed", "()I"⟩, 37) := ⟨⟨by decide +kernel, by decide +kernel⟩, List.mem_of_getElem? (i := 1054) (by decide +kernel), List.mem_of_getElem? (i := 1439) (by decide +kernel), List.mem_of_getElem? (i := 1440) (by decide +kernel)⟩
theorem lw_p84 : lw_okq (⟨"WingPortModel", "maySit", "(II)Z"⟩, 37) := ⟨⟨by decide +kernel, by decide +kernel⟩, List.mem_of_getElem? (i := 1054) (by decide +kernel), List.mem_of_getElem? (i := 1447) (by decide +kernel), List.mem_of_getElem? (i := 1448) (by decide +kernel)⟩
theorem lw_p85 : lw_okq (⟨"WingPortModel", "there", "(II)I"⟩, 37) := ⟨⟨by decide +kernel, by decide +kernel⟩, List.mem_of_getElem? (i := 1054) (by decide +kernel), List.mem_of_getElem? (i := 1467) (by decide +kernel), List.mem_of_getElem? (i := 1468) (by decide +kernel)⟩
theorem lw_p86 : lw_okq (⟨"WingPortModel", "toLoad", "(I)I"⟩, 37) := ⟨⟨by decide +kernel, by decide +kernel⟩, List.mem_of_getElem? (i := 1054) (by decide +kernel), List.mem_of_getElem? (i := 1471) (by decide +kernel), List.mem_of_getElem? (i := 1472) (by decide +kernel)⟩
theorem lw_p87 : lw_okq (⟨"WingPortModel", "toUnload", "(I)I"⟩, 37) := ⟨⟨by decide +kernel, by decide +kernel⟩, List.mem_of_getElem? (i := 1054) (by decide +kernel), List.mem_of_getElem? (i := 1475) (by decide +kernel), List.mem_of_getElem? (i := 1476) (by decide +kernel)⟩
def lw_privs_6 : List (MethodName × Nat) := [(⟨"WingPortModel", "lays", "(Z)V"⟩, 37), (⟨"WingPortModel", "outcome", "(I)I"⟩, 37), (⟨"WingPortModel", "lateOfAll", "()I"⟩, 37), (⟨"WingPortModel", "missed", "()I"⟩, 37), (⟨"WingPortModel", "maySit", "(II)Z"⟩, 37), (⟨"WingPortModel", "there", "(II)I"⟩, 37), (⟨"WingPortModel", "toLoad", "(I)I"⟩, 37), (⟨"WingPortModel", "toUnload", "(I)I"⟩, 37)]
theorem lw_r6 : ∀ q ∈ lw_privs_6, lw_okq q := List.forall_mem_cons.mpr ⟨lw_p80, List.forall_mem_cons.mpr ⟨lw_p81, List.forall_mem_cons.mpr ⟨lw_p82, List.forall_mem_cons.mpr ⟨lw_p83, List.forall_mem_cons.mpr ⟨lw_p84, List.forall_mem_cons.mpr ⟨lw_p85, List.forall_mem_cons.mpr ⟨lw_p86, List.forall_mem_cons.mpr ⟨lw_p87, fun _ h => absurd h List.not_mem_nil⟩⟩⟩⟩⟩⟩⟩⟩
def lw_privs : List (MethodName × Nat) := lw_privs_1 ++ (lw_privs_2 ++ (lw_privs_3 ++ (lw_privs_4 ++ (lw_privs_5 ++ (lw_privs_6)))))
def lw_tbl : List Cond := k2_sels lw_privs ++ tables_1
theorem lw_privs_ok : ∀ q ∈ lw_privs, lw_okq q := by
  show ∀ q ∈ lw_privs_1 ++ (lw_privs_2 ++ (lw_privs_3 ++ (lw_privs_4 ++ (lw_privs_5 ++ (lw_privs_6))))), lw_okq q
  exact List.forall_mem_append.mpr ⟨lw_r1, List.forall_mem_append.mpr ⟨lw_r2, List.forall_mem_append.mpr ⟨lw_r3, List.forall_mem_append.mpr ⟨lw_r4, List.forall_mem_append.mpr ⟨lw_r5, lw_r6⟩⟩⟩⟩⟩
def RX0 : String := "WingPort$Estimates"
def TX0 : u_T := fun k => match k with
  | 0 => ("WingPort$Estimates", "size", "I", false)
  | 1 => ("WingPort$Estimates", "visitOf", "[I", true)
  | 2 => ("WingPort$Estimates", "etas", "[I", true)
  | _ => ("WingPort$Estimates", "toldAt", "[I", true)
def tyX0 : Nat → FieldType := fun k => match k with
  | 0 => .int
  | 1 => .array .int
  | 2 => .array .int
  | _ => .array .int
theorem nmX0 : ∀ a, a < 4 → ∀ b, b < 4 → a ≠ b → (TX0 a).2.1 ≠ (TX0 b).2.1 := by decide +kernel
theorem tyX0_ok : ∀ k, k < 4 → parseFieldDescriptor (TX0 k).2.2.1 = some (tyX0 k) := by decide +kernel
abbrev cX0_init : ByteArray := prog_2_method_1_code
def yX0_init : MethodName := ⟨RX0, "<init>", "()V"⟩
abbrev cX0_add : ByteArray := prog_2_method_2_code
def yX0_add : MethodName := ⟨RX0, "add", "(III)I"⟩
abbrev cX0_thought : ByteArray := prog_2_method_3_code
def yX0_thought : MethodName := ⟨RX0, "thought", "(III)I"⟩
def RX1 : String := "WingPort$Feed"
def TX1 : u_T := fun k => match k with
  | 0 => ("WingPort$Feed", "from", "I", false)
  | 1 => ("WingPort$Feed", "to", "I", false)
  | 2 => ("WingPort$Feed", "bags", "I", false)
  | 3 => ("WingPort$Feed", "cart", "I", false)
  | 4 => ("WingPort$Feed", "state", "I", false)
  | _ => ("WingPort$Feed", "comes", "I", false)
def tyX1 : Nat → FieldType := fun k => match k with
  | 0 => .int
  | 1 => .int
  | 2 => .int
  | 3 => .int
  | 4 => .int
  | _ => .int
theorem nmX1 : ∀ a, a < 6 → ∀ b, b < 6 → a ≠ b → (TX1 a).2.1 ≠ (TX1 b).2.1 := by decide +kernel
theorem tyX1_ok : ∀ k, k < 6 → parseFieldDescriptor (TX1 k).2.2.1 = some (tyX1 k) := by decide +kernel
abbrev cX1_init : ByteArray := prog_3_method_1_code
def yX1_init : MethodName := ⟨RX1, "<init>", "()V"⟩
abbrev cX1_begin : ByteArray := prog_3_method_2_code
def yX1_begin : MethodName := ⟨RX1, "begin", "(IIII)V"⟩
abbrev cX1_become : ByteArray := prog_3_method_3_code
def yX1_become : MethodName := ⟨RX1, "become", "(LWingPort$Feed;)V"⟩
abbrev cX1_told : ByteArray := prog_3_method_4_code
def yX1_told : MethodName := ⟨RX1, "told", "(I)I"⟩
def RX2 : String := "WingPort$Plan"
def TX2 : u_T := fun k => match k with
  | 0 => ("WingPort$Plan", "set", "I", false)
  | 1 => ("WingPort$Plan", "first", "I", false)
  | 2 => ("WingPort$Plan", "wishOfFirst", "I", false)
  | _ => ("WingPort$Plan", "wishOfSecond", "I", false)
def tyX2 : Nat → FieldType := fun k => match k with
  | 0 => .int
  | 1 => .int
  | 2 => .int
  | _ => .int
theorem nmX2 : ∀ a, a < 4 → ∀ b, b < 4 → a ≠ b → (TX2 a).2.1 ≠ (TX2 b).2.1 := by decide +kernel
theorem tyX2_ok : ∀ k, k < 4 → parseFieldDescriptor (TX2 k).2.2.1 = some (tyX2 k) := by decide +kernel
abbrev cX2_init : ByteArray := prog_4_method_1_code
def yX2_init : MethodName := ⟨RX2, "<init>", "()V"⟩
abbrev cX2_keep : ByteArray := prog_4_method_2_code
def yX2_keep : MethodName := ⟨RX2, "keep", "(IIII)V"⟩
abbrev cX2_holds : ByteArray := prog_4_method_3_code
def yX2_holds : MethodName := ⟨RX2, "holds", "(I)Z"⟩
abbrev cX2_wishOf : ByteArray := prog_4_method_4_code
def yX2_wishOf : MethodName := ⟨RX2, "wishOf", "(I)I"⟩
def RX3 : String := "WingPort$Planes"
def TX3 : u_T := fun k => match k with
  | _ => ("", "", "", false)
def tyX3 : Nat → FieldType := fun k => match k with
  | _ => .int
theorem nmX3 : ∀ a, a < 0 → ∀ b, b < 0 → a ≠ b → (TX3 a).2.1 ≠ (TX3 b).2.1 := by decide +kernel
theorem tyX3_ok : ∀ k, k < 0 → parseFieldDescriptor (TX3 k).2.2.1 = some (tyX3 k) := by decide +kernel
abbrev cX3_isKind : ByteArray := prog_5_method_2_code
def yX3_isKind : MethodName := ⟨RX3, "isKind", "(I)Z"⟩
abbrev cX3_size : ByteArray := prog_5_method_3_code
def yX3_size : MethodName := ⟨RX3, "size", "(I)I"⟩
abbrev cX3_roll : ByteArray := prog_5_method_4_code
def yX3_roll : MethodName := ⟨RX3, "roll", "(I)I"⟩
abbrev cX3_lasts : ByteArray := prog_5_method_5_code
def yX3_lasts : MethodName := ⟨RX3, "lasts", "(II)I"⟩
abbrev cX3_behind : ByteArray := prog_5_method_6_code
def yX3_behind : MethodName := ⟨RX3, "behind", "(I)I"⟩
abbrev cX3_truckFor : ByteArray := prog_5_method_7_code
def yX3_truckFor : MethodName := ⟨RX3, "truckFor", "(I)I"⟩
abbrev cX3_isA : ByteArray := prog_5_method_8_code
def yX3_isA : MethodName := ⟨RX3, "isA", "(II)Z"⟩
abbrev cX3_wayToUnload : ByteArray := prog_5_method_9_code
def yX3_wayToUnload : MethodName := ⟨RX3, "wayToUnload", "(I)I"⟩
abbrev cX3_wayToLoad : ByteArray := prog_5_method_10_code
def yX3_wayToLoad : MethodName := ⟨RX3, "wayToLoad", "(I)I"⟩
abbrev cX3_wayThrough : ByteArray := prog_5_method_11_code
def yX3_wayThrough : MethodName := ⟨RX3, "wayThrough", "(IZ)I"⟩
def RX4 : String := "WingPort$Port"
def TX4 : u_T := fun k => match k with
  | 0 => ("WingPort$Port", "tick", "I", false)
  | 1 => ("WingPort$Port", "standCount", "I", false)
  | 2 => ("WingPort$Port", "visitCount", "I", false)
  | 3 => ("WingPort$Port", "feedCount", "I", false)
  | 4 => ("WingPort$Port", "rule", "LWingPort$Rule;", false)
  | 5 => ("WingPort$Port", "settings", "[I", true)
  | 6 => ("WingPort$Port", "busy", "[I", true)
  | 7 => ("WingPort$Port", "standSizes", "[I", true)
  | 8 => ("WingPort$Port", "holders", "[I", true)
  | 9 => ("WingPort$Port", "ends", "[I", true)
  | 10 => ("WingPort$Port", "prevs", "[I", true)
  | 11 => ("WingPort$Port", "visits", "[LWingPort$Visit;", true)
  | 12 => ("WingPort$Port", "feeds", "[LWingPort$Feed;", true)
  | _ => ("WingPort$Port", "names", "[I", true)
def tyX4 : Nat → FieldType := fun k => match k with
  | 0 => .int
  | 1 => .int
  | 2 => .int
  | 3 => .int
  | 4 => .object "WingPort$Rule"
  | 5 => .array .int
  | 6 => .array .int
  | 7 => .array .int
  | 8 => .array .int
  | 9 => .array .int
  | 10 => .array .int
  | 11 => .array (.object "WingPort$Visit")
  | 12 => .array (.object "WingPort$Feed")
  | _ => .array .int
theorem nmX4 : ∀ a, a < 14 → ∀ b, b < 14 → a ≠ b → (TX4 a).2.1 ≠ (TX4 b).2.1 := by decide +kernel
theorem tyX4_ok : ∀ k, k < 14 → parseFieldDescriptor (TX4 k).2.2.1 = some (tyX4 k) := by decide +kernel
abbrev cX4_init : ByteArray := prog_6_method_1_code
def yX4_init : MethodName := ⟨RX4, "<init>", "(LWingPort$Rule;)V"⟩
abbrev cX4_become : ByteArray := prog_6_method_2_code
def yX4_become : MethodName := ⟨RX4, "become", "(LWingPort$Port;)V"⟩
abbrev cX4_maySet : ByteArray := prog_6_method_3_code
def yX4_maySet : MethodName := ⟨RX4, "maySet", "(II)Z"⟩
abbrev cX4_hasVisit : ByteArray := prog_6_method_4_code
def yX4_hasVisit : MethodName := ⟨RX4, "hasVisit", "(I)Z"⟩
abbrev cX4_hasFeed : ByteArray := prog_6_method_5_code
def yX4_hasFeed : MethodName := ⟨RX4, "hasFeed", "(I)Z"⟩
abbrev cX4_hasStand : ByteArray := prog_6_method_6_code
def yX4_hasStand : MethodName := ⟨RX4, "hasStand", "(I)Z"⟩
abbrev cX4_addStand : ByteArray := prog_6_method_7_code
def yX4_addStand : MethodName := ⟨RX4, "addStand", "(I)I"⟩
abbrev cX4_addVisit : ByteArray := prog_6_method_8_code
def yX4_addVisit : MethodName := ⟨RX4, "addVisit", "(IIII)I"⟩
abbrev cX4_addFeed : ByteArray := prog_6_method_9_code
def yX4_addFeed : MethodName := ⟨RX4, "addFeed", "(IIII)I"⟩
abbrev cX4_fits : ByteArray := prog_6_method_10_code
def yX4_fits : MethodName := ⟨RX4, "fits", "(II)Z"⟩
abbrev cX4_outcome : ByteArray := prog_6_method_11_code
def yX4_outcome : MethodName := ⟨RX4, "outcome", "(I)I"⟩
abbrev cX4_lateInAll : ByteArray := prog_6_method_12_code
def yX4_lateInAll : MethodName := ⟨RX4, "lateInAll", "()I"⟩
abbrev cX4_missedBags : ByteArray := prog_6_method_13_code
def yX4_missedBags : MethodName := ⟨RX4, "missedBags", "()I"⟩
abbrev cX4_howMany : ByteArray := prog_6_method_14_code
def yX4_howMany : MethodName := ⟨RX4, "howMany", "(I)I"⟩
abbrev cX4_step : ByteArray := prog_6_method_15_code
def yX4_step : MethodName := ⟨RX4, "step", "()V"⟩
abbrev cX4_move : ByteArray := prog_6_method_16_code
def yX4_move : MethodName := ⟨RX4, "move", "(LWingPort$Visit;)V"⟩
abbrev cX4_work : ByteArray := prog_6_method_17_code
def yX4_work : MethodName := ⟨RX4, "work", "(I)V"⟩
abbrev cX4_finish : ByteArray := prog_6_method_18_code
def yX4_finish : MethodName := ⟨RX4, "finish", "(II)V"⟩
abbrev cX4_sendCarts : ByteArray := prog_6_method_19_code
def yX4_sendCarts : MethodName := ⟨RX4, "sendCarts", "(I)V"⟩
abbrev cX4_carry : ByteArray := prog_6_method_20_code
def yX4_carry : MethodName := ⟨RX4, "carry", "(LWingPort$Feed;)V"⟩
abbrev cX4_serve : ByteArray := prog_6_method_21_code
def yX4_serve : MethodName := ⟨RX4, "serve", "(I)V"⟩
abbrev cX4_isNothing : ByteArray := prog_6_method_22_code
def yX4_isNothing : MethodName := ⟨RX4, "isNothing", "(LWingPort$Visit;I)Z"⟩
abbrev cX4_hindrance : ByteArray := prog_6_method_23_code
def yX4_hindrance : MethodName := ⟨RX4, "hindrance", "(II)I"⟩
abbrev cX4_startNow : ByteArray := prog_6_method_24_code
def yX4_startNow : MethodName := ⟨RX4, "startNow", "(LWingPort$Visit;I)V"⟩
abbrev cX4_waitsForBags : ByteArray := prog_6_method_25_code
def yX4_waitsForBags : MethodName := ⟨RX4, "waitsForBags", "(I)Z"⟩
abbrev cX4_openFeeds : ByteArray := prog_6_method_26_code
def yX4_openFeeds : MethodName := ⟨RX4, "openFeeds", "(I)I"⟩
abbrev cX4_iceAgain : ByteArray := prog_6_method_27_code
def yX4_iceAgain : MethodName := ⟨RX4, "iceAgain", "(LWingPort$Visit;)V"⟩
abbrev cX4_bestFor : ByteArray := prog_6_method_28_code
def yX4_bestFor : MethodName := ⟨RX4, "bestFor", "(I)I"⟩
abbrev cX4_isReady : ByteArray := prog_6_method_29_code
def yX4_isReady : MethodName := ⟨RX4, "isReady", "(II)Z"⟩
abbrev cX4_isReadyToLeave : ByteArray := prog_6_method_30_code
def yX4_isReadyToLeave : MethodName := ⟨RX4, "isReadyToLeave", "(LWingPort$Visit;)Z"⟩
abbrev cX4_standFor : ByteArray := prog_6_method_31_code
def yX4_standFor : MethodName := ⟨RX4, "standFor", "(LWingPort$Visit;)I"⟩
abbrev cX4_giveRunway : ByteArray := prog_6_method_32_code
def yX4_giveRunway : MethodName := ⟨RX4, "giveRunway", "(II)V"⟩
abbrev cX4_blame : ByteArray := prog_6_method_33_code
def yX4_blame : MethodName := ⟨RX4, "blame", "(LWingPort$Visit;)V"⟩
abbrev cX4_causeNow : ByteArray := prog_6_method_34_code
def yX4_causeNow : MethodName := ⟨RX4, "causeNow", "(LWingPort$Visit;)I"⟩
abbrev cX4_causeOfRunways : ByteArray := prog_6_method_35_code
def yX4_causeOfRunways : MethodName := ⟨RX4, "causeOfRunways", "()I"⟩
abbrev cX4_learn : ByteArray := prog_6_method_36_code
def yX4_learn : MethodName := ⟨RX4, "learn", "(II)V"⟩
def RX5 : String := "WingPort$Reader"
def TX5 : u_T := fun k => match k with
  | 0 => ("WingPort$Reader", "tape", "[I", true)
  | 1 => ("WingPort$Reader", "size", "I", false)
  | 2 => ("WingPort$Reader", "at", "I", false)
  | 3 => ("WingPort$Reader", "token", "I", false)
  | 4 => ("WingPort$Reader", "start", "I", false)
  | 5 => ("WingPort$Reader", "value", "I", false)
  | _ => ("WingPort$Reader", "rule", "LWingPort$Rule;", false)
def tyX5 : Nat → FieldType := fun k => match k with
  | 0 => .array .int
  | 1 => .int
  | 2 => .int
  | 3 => .int
  | 4 => .int
  | 5 => .int
  | _ => .object "WingPort$Rule"
theorem nmX5 : ∀ a, a < 7 → ∀ b, b < 7 → a ≠ b → (TX5 a).2.1 ≠ (TX5 b).2.1 := by decide +kernel
theorem tyX5_ok : ∀ k, k < 7 → parseFieldDescriptor (TX5 k).2.2.1 = some (tyX5 k) := by decide +kernel
abbrev cX5_init : ByteArray := prog_7_method_1_code
def yX5_init : MethodName := ⟨RX5, "<init>", "()V"⟩
abbrev cX5_read : ByteArray := prog_7_method_2_code
def yX5_read : MethodName := ⟨RX5, "read", "(ILWingPort$Rule;)I"⟩
abbrev cX5_either : ByteArray := prog_7_method_3_code
def yX5_either : MethodName := ⟨RX5, "either", "(I)Z"⟩
abbrev cX5_both : ByteArray := prog_7_method_4_code
def yX5_both : MethodName := ⟨RX5, "both", "(I)Z"⟩
abbrev cX5_negated : ByteArray := prog_7_method_5_code
def yX5_negated : MethodName := ⟨RX5, "negated", "(I)Z"⟩
abbrev cX5_compared : ByteArray := prog_7_method_6_code
def yX5_compared : MethodName := ⟨RX5, "compared", "(I)Z"⟩
abbrev cX5_sum : ByteArray := prog_7_method_7_code
def yX5_sum : MethodName := ⟨RX5, "sum", "(I)Z"⟩
abbrev cX5_term : ByteArray := prog_7_method_8_code
def yX5_term : MethodName := ⟨RX5, "term", "(I)Z"⟩
abbrev cX5_one : ByteArray := prog_7_method_9_code
def yX5_one : MethodName := ⟨RX5, "one", "(I)Z"⟩
abbrev cX5_enclosed : ByteArray := prog_7_method_10_code
def yX5_enclosed : MethodName := ⟨RX5, "enclosed", "(I)Z"⟩
abbrev cX5_negative : ByteArray := prog_7_method_11_code
def yX5_negative : MethodName := ⟨RX5, "negative", "(I)Z"⟩
abbrev cX5_isWord : ByteArray := prog_7_method_12_code
def yX5_isWord : MethodName := ⟨RX5, "isWord", "(I)Z"⟩
abbrev cX5_next : ByteArray := prog_7_method_13_code
def yX5_next : MethodName := ⟨RX5, "next", "()V"⟩
abbrev cX5_readWord : ByteArray := prog_7_method_14_code
def yX5_readWord : MethodName := ⟨RX5, "readWord", "()V"⟩
abbrev cX5_readNumber : ByteArray := prog_7_method_15_code
def yX5_readNumber : MethodName := ⟨RX5, "readNumber", "()V"⟩
abbrev cX5_wordOf : ByteArray := prog_7_method_16_code
def yX5_wordOf : MethodName := ⟨RX5, "wordOf", "(II)I"⟩
abbrev cX5_isBlank : ByteArray := prog_7_method_17_code
def yX5_isBlank : MethodName := ⟨RX5, "isBlank", "(I)Z"⟩
abbrev cX5_isLetter : ByteArray := prog_7_method_18_code
def yX5_isLetter : MethodName := ⟨RX5, "isLetter", "(I)Z"⟩
abbrev cX5_isDigit : ByteArray := prog_7_method_19_code
def yX5_isDigit : MethodName := ⟨RX5, "isDigit", "(I)Z"⟩
def RX6 : String := "WingPort$Rule"
def TX6 : u_T := fun k => match k with
  | 0 => ("WingPort$Rule", "codes", "[I", true)
  | 1 => ("WingPort$Rule", "partEnds", "[I", true)
  | 2 => ("WingPort$Rule", "stack", "[I", true)
  | _ => ("WingPort$Rule", "size", "I", false)
def tyX6 : Nat → FieldType := fun k => match k with
  | 0 => .array .int
  | 1 => .array .int
  | 2 => .array .int
  | _ => .int
theorem nmX6 : ∀ a, a < 4 → ∀ b, b < 4 → a ≠ b → (TX6 a).2.1 ≠ (TX6 b).2.1 := by decide +kernel
theorem tyX6_ok : ∀ k, k < 4 → parseFieldDescriptor (TX6 k).2.2.1 = some (tyX6 k) := by decide +kernel
abbrev cX6_init : ByteArray := prog_8_method_1_code
def yX6_init : MethodName := ⟨RX6, "<init>", "()V"⟩
abbrev cX6_clear : ByteArray := prog_8_method_2_code
def yX6_clear : MethodName := ⟨RX6, "clear", "()V"⟩
abbrev cX6_put : ByteArray := prog_8_method_3_code
def yX6_put : MethodName := ⟨RX6, "put", "(I)V"⟩
abbrev cX6_endPart : ByteArray := prog_8_method_4_code
def yX6_endPart : MethodName := ⟨RX6, "endPart", "(I)V"⟩
abbrev cX6_says : ByteArray := prog_8_method_5_code
def yX6_says : MethodName := ⟨RX6, "says", "(I[I)I"⟩
abbrev cX6_joined : ByteArray := prog_8_method_6_code
def yX6_joined : MethodName := ⟨RX6, "joined", "(III)I"⟩
def RX7 : String := "WingPort$Sheet"
def TX7 : u_T := fun k => match k with
  | 0 => ("WingPort$Sheet", "sort", "I", false)
  | 1 => ("WingPort$Sheet", "size", "I", false)
  | _ => ("WingPort$Sheet", "cells", "[I", true)
def tyX7 : Nat → FieldType := fun k => match k with
  | 0 => .int
  | 1 => .int
  | _ => .array .int
theorem nmX7 : ∀ a, a < 3 → ∀ b, b < 3 → a ≠ b → (TX7 a).2.1 ≠ (TX7 b).2.1 := by decide +kernel
theorem tyX7_ok : ∀ k, k < 3 → parseFieldDescriptor (TX7 k).2.2.1 = some (tyX7 k) := by decide +kernel
abbrev cX7_init : ByteArray := prog_9_method_1_code
def yX7_init : MethodName := ⟨RX7, "<init>", "()V"⟩
abbrev cX7_renew : ByteArray := prog_9_method_2_code
def yX7_renew : MethodName := ⟨RX7, "renew", "(II)V"⟩
abbrev cX7_isMissing : ByteArray := prog_9_method_3_code
def yX7_isMissing : MethodName := ⟨RX7, "isMissing", "()Z"⟩
abbrev cX7_has : ByteArray := prog_9_method_4_code
def yX7_has : MethodName := ⟨RX7, "has", "(I)Z"⟩
abbrev cX7_spans : ByteArray := prog_9_method_5_code
def yX7_spans : MethodName := ⟨RX7, "spans", "(II)Z"⟩
abbrev cX7_put : ByteArray := prog_9_method_6_code
def yX7_put : MethodName := ⟨RX7, "put", "(II)V"⟩
def RX8 : String := "WingPort$Texts"
def TX8 : u_T := fun k => match k with
  | 0 => ("WingPort$Texts", "tapeSize", "I", false)
  | 1 => ("WingPort$Texts", "size", "I", false)
  | 2 => ("WingPort$Texts", "forced", "I", false)
  | 3 => ("WingPort$Texts", "rules", "[LWingPort$Rule;", true)
  | _ => ("WingPort$Texts", "reader", "LWingPort$Reader;", true)
def tyX8 : Nat → FieldType := fun k => match k with
  | 0 => .int
  | 1 => .int
  | 2 => .int
  | 3 => .array (.object "WingPort$Rule")
  | _ => .object "WingPort$Reader"
theorem nmX8 : ∀ a, a < 5 → ∀ b, b < 5 → a ≠ b → (TX8 a).2.1 ≠ (TX8 b).2.1 := by decide +kernel
theorem tyX8_ok : ∀ k, k < 5 → parseFieldDescriptor (TX8 k).2.2.1 = some (tyX8 k) := by decide +kernel
abbrev cX8_init : ByteArray := prog_10_method_1_code
def yX8_init : MethodName := ⟨RX8, "<init>", "()V"⟩
abbrev cX8_rule : ByteArray := prog_10_method_2_code
def yX8_rule : MethodName := ⟨RX8, "rule", "()LWingPort$Rule;"⟩
abbrev cX8_append : ByteArray := prog_10_method_3_code
def yX8_append : MethodName := ⟨RX8, "append", "(JI)I"⟩
abbrev cX8_take : ByteArray := prog_10_method_4_code
def yX8_take : MethodName := ⟨RX8, "take", "()I"⟩
def RX9 : String := "WingPort$Visit"
def TX9 : u_T := fun k => match k with
  | 0 => ("WingPort$Visit", "kind", "I", false)
  | 1 => ("WingPort$Visit", "eta", "I", false)
  | 2 => ("WingPort$Visit", "etd", "I", false)
  | 3 => ("WingPort$Visit", "crew", "I", false)
  | 4 => ("WingPort$Visit", "late", "I", false)
  | 5 => ("WingPort$Visit", "wish", "I", false)
  | 6 => ("WingPort$Visit", "state", "I", false)
  | 7 => ("WingPort$Visit", "since", "I", false)
  | 8 => ("WingPort$Visit", "stand", "I", false)
  | 9 => ("WingPort$Visit", "done", "I", false)
  | 10 => ("WingPort$Visit", "under", "I", false)
  | 11 => ("WingPort$Visit", "hinder", "I", false)
  | 12 => ("WingPort$Visit", "iced", "I", false)
  | 13 => ("WingPort$Visit", "left", "[I", true)
  | _ => ("WingPort$Visit", "causes", "[I", true)
def tyX9 : Nat → FieldType := fun k => match k with
  | 0 => .int
  | 1 => .int
  | 2 => .int
  | 3 => .int
  | 4 => .int
  | 5 => .int
  | 6 => .int
  | 7 => .int
  | 8 => .int
  | 9 => .int
  | 10 => .int
  | 11 => .int
  | 12 => .int
  | 13 => .array .int
  | _ => .array .int
theorem nmX9 : ∀ a, a < 15 → ∀ b, b < 15 → a ≠ b → (TX9 a).2.1 ≠ (TX9 b).2.1 := by decide +kernel
theorem tyX9_ok : ∀ k, k < 15 → parseFieldDescriptor (TX9 k).2.2.1 = some (tyX9 k) := by decide +kernel
abbrev cX9_init : ByteArray := prog_11_method_1_code
def yX9_init : MethodName := ⟨RX9, "<init>", "()V"⟩
abbrev cX9_begin : ByteArray := prog_11_method_2_code
def yX9_begin : MethodName := ⟨RX9, "begin", "(IIIII)V"⟩
abbrev cX9_become : ByteArray := prog_11_method_3_code
def yX9_become : MethodName := ⟨RX9, "become", "(LWingPort$Visit;)V"⟩
abbrev cX9_enter : ByteArray := prog_11_method_4_code
def yX9_enter : MethodName := ⟨RX9, "enter", "(II)V"⟩
abbrev cX9_comes : ByteArray := prog_11_method_5_code
def yX9_comes : MethodName := ⟨RX9, "comes", "()I"⟩
abbrev cX9_limit : ByteArray := prog_11_method_6_code
def yX9_limit : MethodName := ⟨RX9, "limit", "()I"⟩
abbrev cX9_isAhead : ByteArray := prog_11_method_7_code
def yX9_isAhead : MethodName := ⟨RX9, "isAhead", "()Z"⟩
abbrev cX9_isUnder : ByteArray := prog_11_method_8_code
def yX9_isUnder : MethodName := ⟨RX9, "isUnder", "(I)Z"⟩
abbrev cX9_isDone : ByteArray := prog_11_method_9_code
def yX9_isDone : MethodName := ⟨RX9, "isDone", "(I)Z"⟩
abbrev cX9_mayBegin : ByteArray := prog_11_method_10_code
def yX9_mayBegin : MethodName := ⟨RX9, "mayBegin", "(I)Z"⟩
abbrev cX9_startAct : ByteArray := prog_11_method_11_code
def yX9_startAct : MethodName := ⟨RX9, "startAct", "(I)V"⟩
abbrev cX9_endAct : ByteArray := prog_11_method_12_code
def yX9_endAct : MethodName := ⟨RX9, "endAct", "(I)V"⟩
abbrev cX9_needsIce : ByteArray := prog_11_method_13_code
def yX9_needsIce : MethodName := ⟨RX9, "needsIce", "(II)Z"⟩
abbrev cX9_lateTicks : ByteArray := prog_11_method_14_code
def yX9_lateTicks : MethodName := ⟨RX9, "lateTicks", "()I"⟩
abbrev cX9_told : ByteArray := prog_11_method_15_code
def yX9_told : MethodName := ⟨RX9, "told", "(I)I"⟩
def RX10 : String := "WingPort"
def TX10 : u_T := fun k => match k with
  | 0 => ("WingPort", "port", "LWingPort$Port;", true)
  | 1 => ("WingPort", "aside", "LWingPort$Port;", true)
  | 2 => ("WingPort", "texts", "LWingPort$Texts;", true)
  | 3 => ("WingPort", "kept", "LWingPort$Plan;", true)
  | 4 => ("WingPort", "estimates", "LWingPort$Estimates;", true)
  | _ => ("WingPort", "sheets", "[LWingPort$Sheet;", true)
def tyX10 : Nat → FieldType := fun k => match k with
  | 0 => .object "WingPort$Port"
  | 1 => .object "WingPort$Port"
  | 2 => .object "WingPort$Texts"
  | 3 => .object "WingPort$Plan"
  | 4 => .object "WingPort$Estimates"
  | _ => .array (.object "WingPort$Sheet")
theorem nmX10 : ∀ a, a < 6 → ∀ b, b < 6 → a ≠ b → (TX10 a).2.1 ≠ (TX10 b).2.1 := by decide +kernel
theorem tyX10_ok : ∀ k, k < 6 → parseFieldDescriptor (TX10 k).2.2.1 = some (tyX10 k) := by decide +kernel
abbrev cX10_init : ByteArray := prog_1_method_1_code
def yX10_init : MethodName := ⟨RX10, "<init>", "()V"⟩
abbrev cX10_stand : ByteArray := prog_1_method_2_code
def yX10_stand : MethodName := ⟨RX10, "stand", "(I)I"⟩
abbrev cX10_set : ByteArray := prog_1_method_3_code
def yX10_set : MethodName := ⟨RX10, "set", "(II)I"⟩
abbrev cX10_visit : ByteArray := prog_1_method_4_code
def yX10_visit : MethodName := ⟨RX10, "visit", "(IIII)I"⟩
abbrev cX10_late : ByteArray := prog_1_method_5_code
def yX10_late : MethodName := ⟨RX10, "late", "(II)I"⟩
abbrev cX10_wish : ByteArray := prog_1_method_6_code
def yX10_wish : MethodName := ⟨RX10, "wish", "(II)I"⟩
abbrev cX10_feed : ByteArray := prog_1_method_7_code
def yX10_feed : MethodName := ⟨RX10, "feed", "(IIII)I"⟩
abbrev cX10_run : ByteArray := prog_1_method_8_code
def yX10_run : MethodName := ⟨RX10, "run", "(I)I"⟩
abbrev cX10_visitTold : ByteArray := prog_1_method_9_code
def yX10_visitTold : MethodName := ⟨RX10, "visitTold", "(II)I"⟩
abbrev cX10_cause : ByteArray := prog_1_method_10_code
def yX10_cause : MethodName := ⟨RX10, "cause", "(II)I"⟩
abbrev cX10_feedTold : ByteArray := prog_1_method_11_code
def yX10_feedTold : MethodName := ⟨RX10, "feedTold", "(II)I"⟩
abbrev cX10_standTold : ByteArray := prog_1_method_12_code
def yX10_standTold : MethodName := ⟨RX10, "standTold", "(II)I"⟩
abbrev cX10_runwayTold : ByteArray := prog_1_method_13_code
def yX10_runwayTold : MethodName := ⟨RX10, "runwayTold", "(II)I"⟩
abbrev cX10_ticks : ByteArray := prog_1_method_14_code
def yX10_ticks : MethodName := ⟨RX10, "ticks", "(II)I"⟩
abbrev cX10_kindTold : ByteArray := prog_1_method_15_code
def yX10_kindTold : MethodName := ⟨RX10, "kindTold", "(II)I"⟩
abbrev cX10_trucks : ByteArray := prog_1_method_16_code
def yX10_trucks : MethodName := ⟨RX10, "trucks", "(II)I"⟩
abbrev cX10_beside : ByteArray := prog_1_method_17_code
def yX10_beside : MethodName := ⟨RX10, "beside", "(II)I"⟩
abbrev cX10_plan : ByteArray := prog_1_method_18_code
def yX10_plan : MethodName := ⟨RX10, "plan", "(II)I"⟩
abbrev cX10_planned : ByteArray := prog_1_method_19_code
def yX10_planned : MethodName := ⟨RX10, "planned", "(I)I"⟩
abbrev cX10_settle : ByteArray := prog_1_method_20_code
def yX10_settle : MethodName := ⟨RX10, "settle", "()I"⟩
abbrev cX10_estimate : ByteArray := prog_1_method_21_code
def yX10_estimate : MethodName := ⟨RX10, "estimate", "(II)I"⟩
abbrev cX10_expects : ByteArray := prog_1_method_22_code
def yX10_expects : MethodName := ⟨RX10, "expects", "(II)I"⟩
abbrev cX10_misses : ByteArray := prog_1_method_23_code
def yX10_misses : MethodName := ⟨RX10, "misses", "(II)I"⟩
abbrev cX10_feedTape : ByteArray := prog_1_method_24_code
def yX10_feedTape : MethodName := ⟨RX10, "feedTape", "(JI)I"⟩
abbrev cX10_text : ByteArray := prog_1_method_25_code
def yX10_text : MethodName := ⟨RX10, "text", "()I"⟩
abbrev cX10_force : ByteArray := prog_1_method_26_code
def yX10_force : MethodName := ⟨RX10, "force", "(I)I"⟩
abbrev cX10_tells : ByteArray := prog_1_method_27_code
def yX10_tells : MethodName := ⟨RX10, "tells", "(II)J"⟩
abbrev cX10_count : ByteArray := prog_1_method_28_code
def yX10_count : MethodName := ⟨RX10, "count", "(I)I"⟩
abbrev cX10_sheet : ByteArray := prog_1_method_29_code
def yX10_sheet : MethodName := ⟨RX10, "sheet", "(III)I"⟩
abbrev cX10_cell : ByteArray := prog_1_method_30_code
def yX10_cell : MethodName := ⟨RX10, "cell", "(III)I"⟩
abbrev cX10_copy : ByteArray := prog_1_method_31_code
def yX10_copy : MethodName := ⟨RX10, "copy", "(IIIII)I"⟩
abbrev cX10_visits : ByteArray := prog_1_method_32_code
def yX10_visits : MethodName := ⟨RX10, "visits", "(IIII)I"⟩
abbrev cX10_taken : ByteArray := prog_1_method_33_code
def yX10_taken : MethodName := ⟨RX10, "taken", "(II)I"⟩
abbrev cX10_refusedAhead : ByteArray := prog_1_method_34_code
def yX10_refusedAhead : MethodName := ⟨RX10, "refusedAhead", "(II)I"⟩
abbrev cX10_areAhead : ByteArray := prog_1_method_35_code
def yX10_areAhead : MethodName := ⟨RX10, "areAhead", "(I)Z"⟩
abbrev cX10_refusedPlan : ByteArray := prog_1_method_36_code
def yX10_refusedPlan : MethodName := ⟨RX10, "refusedPlan", "(II)I"⟩
abbrev cX10_lowest : ByteArray := prog_1_method_37_code
def yX10_lowest : MethodName := ⟨RX10, "lowest", "(I)I"⟩
abbrev cX10_lateWith : ByteArray := prog_1_method_38_code
def yX10_lateWith : MethodName := ⟨RX10, "lateWith", "(IIIII)I"⟩
abbrev cX10_thereBy : ByteArray := prog_1_method_39_code
def yX10_thereBy : MethodName := ⟨RX10, "thereBy", "(II)I"⟩
abbrev cX10_cartThereBy : ByteArray := prog_1_method_40_code
def yX10_cartThereBy : MethodName := ⟨RX10, "cartThereBy", "(LWingPort$Feed;I)I"⟩
abbrev cX10_visitsOf : ByteArray := prog_1_method_41_code
def yX10_visitsOf : MethodName := ⟨RX10, "visitsOf", "(LWingPort$Sheet;II)I"⟩
def RX11 : String := "WingPortModel"
def TX11 : u_T := fun k => match k with
  | 0 => ("WingPortModel", "p", "[I", true)
  | 1 => ("WingPortModel", "visits", "I", false)
  | 2 => ("WingPortModel", "feeds", "I", false)
  | 3 => ("WingPortModel", "stands", "I", false)
  | 4 => ("WingPortModel", "estimates", "I", false)
  | 5 => ("WingPortModel", "estimateOf", "[I", true)
  | 6 => ("WingPortModel", "estimateEta", "[I", true)
  | 7 => ("WingPortModel", "estimateTold", "[I", true)
  | 8 => ("WingPortModel", "planned", "I", false)
  | 9 => ("WingPortModel", "plan", "[I", true)
  | 10 => ("WingPortModel", "tape", "[I", true)
  | 11 => ("WingPortModel", "taped", "I", false)
  | 12 => ("WingPortModel", "texts", "I", false)
  | 13 => ("WingPortModel", "rule", "I", false)
  | 14 => ("WingPortModel", "codes", "[I", true)
  | 15 => ("WingPortModel", "starts", "[I", true)
  | 16 => ("WingPortModel", "first", "[I", true)
  | 17 => ("WingPortModel", "sheetSort", "[I", true)
  | 18 => ("WingPortModel", "sheetSize", "[I", true)
  | 19 => ("WingPortModel", "cells", "[I", true)
  | 20 => ("WingPortModel", "kindTicks", "[I", true)
  | 21 => ("WingPortModel", "kindSize", "[I", true)
  | 22 => ("WingPortModel", "kindRoll", "[I", true)
  | 23 => ("WingPortModel", "truckOf", "[I", true)
  | 24 => ("WingPortModel", "ahead", "[I", true)
  | 25 => ("WingPortModel", "at", "I", false)
  | 26 => ("WingPortModel", "begun", "I", false)
  | 27 => ("WingPortModel", "token", "I", false)
  | 28 => ("WingPortModel", "value", "I", false)
  | 29 => ("WingPortModel", "words", "[I", true)
  | 30 => ("WingPortModel", "held", "[I", true)
  | 31 => ("WingPortModel", "heldMany", "I", false)
  | 32 => ("WingPortModel", "opens", "I", false)
  | 33 => ("WingPortModel", "out", "I", false)
  | 34 => ("WingPortModel", "stack", "[I", true)
  | 35 => ("WingPortModel", "hinders", "[I", true)
  | _ => ("WingPortModel", "kept", "[I", true)
def tyX11 : Nat → FieldType := fun k => match k with
  | 0 => .array .int
  | 1 => .int
  | 2 => .int
  | 3 => .int
  | 4 => .int
  | 5 => .array .int
  | 6 => .array .int
  | 7 => .array .int
  | 8 => .int
  | 9 => .array .int
  | 10 => .array .int
  | 11 => .int
  | 12 => .int
  | 13 => .int
  | 14 => .array .int
  | 15 => .array .int
  | 16 => .array .int
  | 17 => .array .int
  | 18 => .array .int
  | 19 => .array .int
  | 20 => .array .int
  | 21 => .array .int
  | 22 => .array .int
  | 23 => .array .int
  | 24 => .array .int
  | 25 => .int
  | 26 => .int
  | 27 => .int
  | 28 => .int
  | 29 => .array .int
  | 30 => .array .int
  | 31 => .int
  | 32 => .int
  | 33 => .int
  | 34 => .array .int
  | 35 => .array .int
  | _ => .array .int
theorem nmX11 : ∀ a, a < 37 → ∀ b, b < 37 → a ≠ b → (TX11 a).2.1 ≠ (TX11 b).2.1 := by decide +kernel
theorem tyX11_ok : ∀ k, k < 37 → parseFieldDescriptor (TX11 k).2.2.1 = some (tyX11 k) := by decide +kernel
abbrev cX11_init : ByteArray := prog_13_method_1_code
def yX11_init : MethodName := ⟨RX11, "<init>", "()V"⟩
abbrev cX11_in : ByteArray := prog_13_method_3_code
def yX11_in : MethodName := ⟨RX11, "in", "(III)Z"⟩
abbrev cX11_isVisit : ByteArray := prog_13_method_4_code
def yX11_isVisit : MethodName := ⟨RX11, "isVisit", "(I)Z"⟩
abbrev cX11_isStand : ByteArray := prog_13_method_5_code
def yX11_isStand : MethodName := ⟨RX11, "isStand", "(I)Z"⟩
abbrev cX11_of : ByteArray := prog_13_method_6_code
def yX11_of : MethodName := ⟨RX11, "of", "(II)I"⟩
abbrev cX11_ticksOf : ByteArray := prog_13_method_7_code
def yX11_ticksOf : MethodName := ⟨RX11, "ticksOf", "(II)I"⟩
abbrev cX11_come : ByteArray := prog_13_method_8_code
def yX11_come : MethodName := ⟨RX11, "come", "(I)I"⟩
abbrev cX11_limit : ByteArray := prog_13_method_9_code
def yX11_limit : MethodName := ⟨RX11, "limit", "(I)I"⟩
abbrev cX11_isDone : ByteArray := prog_13_method_10_code
def yX11_isDone : MethodName := ⟨RX11, "isDone", "(II)Z"⟩
abbrev cX11_stand : ByteArray := prog_13_method_11_code
def yX11_stand : MethodName := ⟨RX11, "stand", "(I)I"⟩
abbrev cX11_set : ByteArray := prog_13_method_12_code
def yX11_set : MethodName := ⟨RX11, "set", "(II)I"⟩
abbrev cX11_visit : ByteArray := prog_13_method_13_code
def yX11_visit : MethodName := ⟨RX11, "visit", "(IIII)I"⟩
abbrev cX11_late : ByteArray := prog_13_method_14_code
def yX11_late : MethodName := ⟨RX11, "late", "(II)I"⟩
abbrev cX11_isAhead : ByteArray := prog_13_method_15_code
def yX11_isAhead : MethodName := ⟨RX11, "isAhead", "(I)Z"⟩
abbrev cX11_wish : ByteArray := prog_13_method_16_code
def yX11_wish : MethodName := ⟨RX11, "wish", "(II)I"⟩
abbrev cX11_feed : ByteArray := prog_13_method_17_code
def yX11_feed : MethodName := ⟨RX11, "feed", "(IIII)I"⟩
abbrev cX11_feedTape : ByteArray := prog_13_method_18_code
def yX11_feedTape : MethodName := ⟨RX11, "feedTape", "(JI)I"⟩
abbrev cX11_letters : ByteArray := prog_13_method_19_code
def yX11_letters : MethodName := ⟨RX11, "letters", "()I"⟩
abbrev cX11_next : ByteArray := prog_13_method_20_code
def yX11_next : MethodName := ⟨RX11, "next", "()V"⟩
abbrev cX11_rank : ByteArray := prog_13_method_21_code
def yX11_rank : MethodName := ⟨RX11, "rank", "(I)I"⟩
abbrev cX11_puts : ByteArray := prog_13_method_22_code
def yX11_puts : MethodName := ⟨RX11, "puts", "(I)V"⟩
abbrev cX11_unwinds : ByteArray := prog_13_method_23_code
def yX11_unwinds : MethodName := ⟨RX11, "unwinds", "(I)V"⟩
abbrev cX11_holds : ByteArray := prog_13_method_24_code
def yX11_holds : MethodName := ⟨RX11, "holds", "(I)V"⟩
abbrev cX11_opensOne : ByteArray := prog_13_method_25_code
def yX11_opensOne : MethodName := ⟨RX11, "opensOne", "(I)Z"⟩
abbrev cX11_between : ByteArray := prog_13_method_26_code
def yX11_between : MethodName := ⟨RX11, "between", "(I)Z"⟩
abbrev cX11_signOf : ByteArray := prog_13_method_27_code
def yX11_signOf : MethodName := ⟨RX11, "signOf", "()I"⟩
abbrev cX11_eRead : ByteArray := prog_13_method_28_code
def yX11_eRead : MethodName := ⟨RX11, "eRead", "()Z"⟩
abbrev cX11_text : ByteArray := prog_13_method_29_code
def yX11_text : MethodName := ⟨RX11, "text", "()I"⟩
abbrev cX11_force : ByteArray := prog_13_method_30_code
def yX11_force : MethodName := ⟨RX11, "force", "(I)I"⟩
abbrev cX11_bagsTo : ByteArray := prog_13_method_31_code
def yX11_bagsTo : MethodName := ⟨RX11, "bagsTo", "(I)I"⟩
abbrev cX11_named : ByteArray := prog_13_method_32_code
def yX11_named : MethodName := ⟨RX11, "named", "(III)I"⟩
abbrev cX11_two : ByteArray := prog_13_method_33_code
def yX11_two : MethodName := ⟨RX11, "two", "(III)I"⟩
abbrev cX11_worth : ByteArray := prog_13_method_34_code
def yX11_worth : MethodName := ⟨RX11, "worth", "(III)I"⟩
abbrev cX11_atLeast0 : ByteArray := prog_13_method_35_code
def yX11_atLeast0 : MethodName := ⟨RX11, "atLeast0", "(III)I"⟩
abbrev cX11_tells : ByteArray := prog_13_method_36_code
def yX11_tells : MethodName := ⟨RX11, "tells", "(II)J"⟩
abbrev cX11_becomes : ByteArray := prog_13_method_37_code
def yX11_becomes : MethodName := ⟨RX11, "becomes", "(II)V"⟩
abbrev cX11_goesOn : ByteArray := prog_13_method_38_code
def yX11_goesOn : MethodName := ⟨RX11, "goesOn", "(I)V"⟩
abbrev cX11_isDoneNow : ByteArray := prog_13_method_39_code
def yX11_isDoneNow : MethodName := ⟨RX11, "isDoneNow", "(II)V"⟩
abbrev cX11_works : ByteArray := prog_13_method_40_code
def yX11_works : MethodName := ⟨RX11, "works", "(I)V"⟩
abbrev cX11_feedGoes : ByteArray := prog_13_method_41_code
def yX11_feedGoes : MethodName := ⟨RX11, "feedGoes", "(I)V"⟩
abbrev cX11_isFree : ByteArray := prog_13_method_42_code
def yX11_isFree : MethodName := ⟨RX11, "isFree", "(I)Z"⟩
abbrev cX11_hindrance : ByteArray := prog_13_method_43_code
def yX11_hindrance : MethodName := ⟨RX11, "hindrance", "(II)I"⟩
abbrev cX11_begins : ByteArray := prog_13_method_44_code
def yX11_begins : MethodName := ⟨RX11, "begins", "(II)V"⟩
abbrev cX11_serves : ByteArray := prog_13_method_45_code
def yX11_serves : MethodName := ⟨RX11, "serves", "(I)V"⟩
abbrev cX11_needsIce : ByteArray := prog_13_method_46_code
def yX11_needsIce : MethodName := ⟨RX11, "needsIce", "(I)Z"⟩
abbrev cX11_standFor : ByteArray := prog_13_method_47_code
def yX11_standFor : MethodName := ⟨RX11, "standFor", "(I)I"⟩
abbrev cX11_isReady : ByteArray := prog_13_method_48_code
def yX11_isReady : MethodName := ⟨RX11, "isReady", "(II)Z"⟩
abbrev cX11_uses : ByteArray := prog_13_method_49_code
def yX11_uses : MethodName := ⟨RX11, "uses", "(I)V"⟩
abbrev cX11_causeOf : ByteArray := prog_13_method_50_code
def yX11_causeOf : MethodName := ⟨RX11, "causeOf", "(I)I"⟩
abbrev cX11_ticks : ByteArray := prog_13_method_51_code
def yX11_ticks : MethodName := ⟨RX11, "ticks", "()V"⟩
abbrev cX11_run : ByteArray := prog_13_method_52_code
def yX11_run : MethodName := ⟨RX11, "run", "(I)I"⟩
abbrev cX11_lateOf : ByteArray := prog_13_method_53_code
def yX11_lateOf : MethodName := ⟨RX11, "lateOf", "(I)I"⟩
abbrev cX11_lateOfAll : ByteArray := prog_13_method_54_code
def yX11_lateOfAll : MethodName := ⟨RX11, "lateOfAll", "()I"⟩
abbrev cX11_missed : ByteArray := prog_13_method_55_code
def yX11_missed : MethodName := ⟨RX11, "missed", "()I"⟩
abbrev cX11_visitTold : ByteArray := prog_13_method_56_code
def yX11_visitTold : MethodName := ⟨RX11, "visitTold", "(II)I"⟩
abbrev cX11_cause : ByteArray := prog_13_method_57_code
def yX11_cause : MethodName := ⟨RX11, "cause", "(II)I"⟩
abbrev cX11_feedTold : ByteArray := prog_13_method_58_code
def yX11_feedTold : MethodName := ⟨RX11, "feedTold", "(II)I"⟩
abbrev cX11_standTold : ByteArray := prog_13_method_59_code
def yX11_standTold : MethodName := ⟨RX11, "standTold", "(II)I"⟩
abbrev cX11_runwayTold : ByteArray := prog_13_method_60_code
def yX11_runwayTold : MethodName := ⟨RX11, "runwayTold", "(II)I"⟩
abbrev cX11_ticks_ : ByteArray := prog_13_method_61_code
def yX11_ticks_ : MethodName := ⟨RX11, "ticks", "(II)I"⟩
abbrev cX11_kindTold : ByteArray := prog_13_method_62_code
def yX11_kindTold : MethodName := ⟨RX11, "kindTold", "(II)I"⟩
abbrev cX11_trucks : ByteArray := prog_13_method_63_code
def yX11_trucks : MethodName := ⟨RX11, "trucks", "(II)I"⟩
abbrev cX11_lays : ByteArray := prog_13_method_64_code
def yX11_lays : MethodName := ⟨RX11, "lays", "(Z)V"⟩
abbrev cX11_outcome : ByteArray := prog_13_method_65_code
def yX11_outcome : MethodName := ⟨RX11, "outcome", "(I)I"⟩
abbrev cX11_beside : ByteArray := prog_13_method_66_code
def yX11_beside : MethodName := ⟨RX11, "beside", "(II)I"⟩
abbrev cX11_maySit : ByteArray := prog_13_method_67_code
def yX11_maySit : MethodName := ⟨RX11, "maySit", "(II)Z"⟩
abbrev cX11_plan : ByteArray := prog_13_method_68_code
def yX11_plan : MethodName := ⟨RX11, "plan", "(II)I"⟩
abbrev cX11_planned : ByteArray := prog_13_method_69_code
def yX11_planned : MethodName := ⟨RX11, "planned", "(I)I"⟩
abbrev cX11_settle : ByteArray := prog_13_method_70_code
def yX11_settle : MethodName := ⟨RX11, "settle", "()I"⟩
abbrev cX11_estimate : ByteArray := prog_13_method_71_code
def yX11_estimate : MethodName := ⟨RX11, "estimate", "(II)I"⟩
abbrev cX11_there : ByteArray := prog_13_method_72_code
def yX11_there : MethodName := ⟨RX11, "there", "(II)I"⟩
abbrev cX11_toUnload : ByteArray := prog_13_method_73_code
def yX11_toUnload : MethodName := ⟨RX11, "toUnload", "(I)I"⟩
abbrev cX11_toLoad : ByteArray := prog_13_method_74_code
def yX11_toLoad : MethodName := ⟨RX11, "toLoad", "(I)I"⟩
abbrev cX11_expects : ByteArray := prog_13_method_75_code
def yX11_expects : MethodName := ⟨RX11, "expects", "(II)I"⟩
abbrev cX11_misses : ByteArray := prog_13_method_76_code
def yX11_misses : MethodName := ⟨RX11, "misses", "(II)I"⟩
abbrev cX11_count : ByteArray := prog_13_method_77_code
def yX11_count : MethodName := ⟨RX11, "count", "(I)I"⟩
abbrev cX11_sheet : ByteArray := prog_13_method_78_code
def yX11_sheet : MethodName := ⟨RX11, "sheet", "(III)I"⟩
abbrev cX11_cell : ByteArray := prog_13_method_79_code
def yX11_cell : MethodName := ⟨RX11, "cell", "(III)I"⟩
abbrev cX11_copy : ByteArray := prog_13_method_80_code
def yX11_copy : MethodName := ⟨RX11, "copy", "(IIIII)I"⟩
abbrev cX11_visits : ByteArray := prog_13_method_81_code
def yX11_visits : MethodName := ⟨RX11, "visits", "(IIII)I"⟩
abbrev cX11_isUnder : ByteArray := prog_13_method_82_code
def yX11_isUnder : MethodName := ⟨RX11, "isUnder", "(II)Z"⟩
abbrev cX11_taken : ByteArray := prog_13_method_83_code
def yX11_taken : MethodName := ⟨RX11, "taken", "(II)I"⟩
def RL : String := "WingPortLaw"
abbrev cL_law : ByteArray := code
def yL_law : MethodName := ⟨RL, "law", "([I)Z"⟩
def RX100 : String := "java/lang/String"
def RX101 : String := "java/lang/StringLatin1"
def RX102 : String := "jdk/internal/util/Preconditions"
def RX103 : String := "java/lang/Integer"
abbrev cX100_length : ByteArray := prog_17_method_54_code
def yX100_length : MethodName := ⟨RX100, "length", "()I"⟩
abbrev cX100_coder : ByteArray := prog_17_method_152_code
def yX100_coder : MethodName := ⟨RX100, "coder", "()B"⟩
abbrev cX100_charAt : ByteArray := prog_17_method_56_code
def yX100_charAt : MethodName := ⟨RX100, "charAt", "(I)C"⟩
abbrev cX100_isLatin1 : ByteArray := prog_17_method_154_code
def yX100_isLatin1 : MethodName := ⟨RX100, "isLatin1", "()Z"⟩
abbrev cX100_checkIndex : ByteArray := prog_17_method_155_code
def yX100_checkIndex : MethodName := ⟨RX100, "checkIndex", "(II)V"⟩
abbrev cX100_indexOf : ByteArray := prog_17_method_79_code
def yX100_indexOf : MethodName := ⟨RX100, "indexOf", "(I)I"⟩
abbrev cX100_indexOf2 : ByteArray := prog_17_method_80_code
def yX100_indexOf2 : MethodName := ⟨RX100, "indexOf", "(II)I"⟩
abbrev cX101_charAt : ByteArray := prog_18_method_2_code
def yX101_charAt : MethodName := ⟨RX101, "charAt", "([BI)C"⟩
abbrev cX101_indexOf : ByteArray := prog_18_method_22_code
def yX101_indexOf : MethodName := ⟨RX101, "indexOf", "([BIII)I"⟩
abbrev cX101_canEncode : ByteArray := prog_18_method_4_code
def yX101_canEncode : MethodName := ⟨RX101, "canEncode", "(I)Z"⟩
abbrev cX101_indexOfChar : ByteArray := prog_18_method_23_code
def yX101_indexOfChar : MethodName := ⟨RX101, "indexOfChar", "([BIII)I"⟩
abbrev cX102_checkIndex : ByteArray := prog_21_method_11_code
def yX102_checkIndex : MethodName := ⟨RX102, "checkIndex", "(IILjava/util/function/BiFunction;)I"⟩
abbrev cX103_bitCount : ByteArray := prog_15_method_49_code
def yX103_bitCount : MethodName := ⟨RX103, "bitCount", "(I)I"⟩
abbrev classes : List vw_C := [(RX0, TX0, 4), (RX1, TX1, 6), (RX2, TX2, 4), (RX4, TX4, 14), (RX5, TX5, 7), (RX6, TX6, 4), (RX7, TX7, 3), (RX8, TX8, 5), (RX9, TX9, 15), (RX10, TX10, 6), (RX11, TX11, 37)]
