section
-- ===== PART A: goes FIRST, ahead of the names: the tables' words, and 'selects' of the private methods out of them =====
/-- a private method of a class that the tables say can be made, by its rows of tables_1 -/
def lw_okq (q : MethodName × Nat) : Prop := (q.1.cls ≠ "java/lang/invoke/MethodHandle" ∧ q.1.cls ≠ "java/lang/invoke/VarHandle") ∧ Cond.instantiable q.1.cls q.2 ∈ tables_1 ∧ Cond.privateMethod q.1 ∈ tables_1 ∧ Cond.instanceMethod q.1 ∈ tables_1
theorem lw_p0 : lw_okq (⟨"AlikeUnlike$Form", "otherMays", "(I)I"⟩, 3) := ⟨⟨by decide +kernel, by decide +kernel⟩, List.mem_of_getElem? (i := 26) (by decide +kernel), List.mem_of_getElem? (i := 383) (by decide +kernel), List.mem_of_getElem? (i := 384) (by decide +kernel)⟩
theorem lw_p1 : lw_okq (⟨"AlikeUnlike$Page", "takes", "(I)Z"⟩, 9) := ⟨⟨by decide +kernel, by decide +kernel⟩, List.mem_of_getElem? (i := 75) (by decide +kernel), List.mem_of_getElem? (i := 450) (by decide +kernel), List.mem_of_getElem? (i := 451) (by decide +kernel)⟩
theorem lw_p2 : lw_okq (⟨"AlikeUnlike$Page", "takesFactor", "(I)Z"⟩, 9) := ⟨⟨by decide +kernel, by decide +kernel⟩, List.mem_of_getElem? (i := 75) (by decide +kernel), List.mem_of_getElem? (i := 454) (by decide +kernel), List.mem_of_getElem? (i := 455) (by decide +kernel)⟩
theorem lw_p3 : lw_okq (⟨"AlikeUnlike$Page", "goesOn", "(I)Z"⟩, 9) := ⟨⟨by decide +kernel, by decide +kernel⟩, List.mem_of_getElem? (i := 75) (by decide +kernel), List.mem_of_getElem? (i := 458) (by decide +kernel), List.mem_of_getElem? (i := 459) (by decide +kernel)⟩
theorem lw_p4 : lw_okq (⟨"AlikeUnlike$Page", "takesUnit", "(I)Z"⟩, 9) := ⟨⟨by decide +kernel, by decide +kernel⟩, List.mem_of_getElem? (i := 75) (by decide +kernel), List.mem_of_getElem? (i := 462) (by decide +kernel), List.mem_of_getElem? (i := 463) (by decide +kernel)⟩
theorem lw_p5 : lw_okq (⟨"AlikeUnlike$Page", "takesBehindUnit", "(I)Z"⟩, 9) := ⟨⟨by decide +kernel, by decide +kernel⟩, List.mem_of_getElem? (i := 75) (by decide +kernel), List.mem_of_getElem? (i := 472) (by decide +kernel), List.mem_of_getElem? (i := 473) (by decide +kernel)⟩
theorem lw_p6 : lw_okq (⟨"AlikeUnlike$Page", "takesBehindFactor", "(I)Z"⟩, 9) := ⟨⟨by decide +kernel, by decide +kernel⟩, List.mem_of_getElem? (i := 75) (by decide +kernel), List.mem_of_getElem? (i := 476) (by decide +kernel), List.mem_of_getElem? (i := 477) (by decide +kernel)⟩
theorem lw_p7 : lw_okq (⟨"AlikeUnlike$Script", "take", "(II)V"⟩, 8) := ⟨⟨by decide +kernel, by decide +kernel⟩, List.mem_of_getElem? (i := 33) (by decide +kernel), List.mem_of_getElem? (i := 501) (by decide +kernel), List.mem_of_getElem? (i := 502) (by decide +kernel)⟩
theorem lw_p8 : lw_okq (⟨"AlikeUnlike$Script", "takeDigit", "(II)V"⟩, 8) := ⟨⟨by decide +kernel, by decide +kernel⟩, List.mem_of_getElem? (i := 33) (by decide +kernel), List.mem_of_getElem? (i := 506) (by decide +kernel), List.mem_of_getElem? (i := 507) (by decide +kernel)⟩
theorem lw_p9 : lw_okq (⟨"AlikeUnlike$Script", "add", "(I)V"⟩, 8) := ⟨⟨by decide +kernel, by decide +kernel⟩, List.mem_of_getElem? (i := 33) (by decide +kernel), List.mem_of_getElem? (i := 510) (by decide +kernel), List.mem_of_getElem? (i := 511) (by decide +kernel)⟩
theorem lw_p10 : lw_okq (⟨"AlikeUnlike$Script", "hold", "(I)V"⟩, 8) := ⟨⟨by decide +kernel, by decide +kernel⟩, List.mem_of_getElem? (i := 33) (by decide +kernel), List.mem_of_getElem? (i := 523) (by decide +kernel), List.mem_of_getElem? (i := 524) (by decide +kernel)⟩
theorem lw_p11 : lw_okq (⟨"AlikeUnlike$Script", "release", "(I)V"⟩, 8) := ⟨⟨by decide +kernel, by decide +kernel⟩, List.mem_of_getElem? (i := 33) (by decide +kernel), List.mem_of_getElem? (i := 527) (by decide +kernel), List.mem_of_getElem? (i := 528) (by decide +kernel)⟩
theorem lw_p12 : lw_okq (⟨"AlikeUnlike$Walker", "push", "(J)V"⟩, 4) := ⟨⟨by decide +kernel, by decide +kernel⟩, List.mem_of_getElem? (i := 111) (by decide +kernel), List.mem_of_getElem? (i := 554) (by decide +kernel), List.mem_of_getElem? (i := 555) (by decide +kernel)⟩
theorem lw_p13 : lw_okq (⟨"AlikeUnlike$Walker", "pushField", "(I)V"⟩, 4) := ⟨⟨by decide +kernel, by decide +kernel⟩, List.mem_of_getElem? (i := 111) (by decide +kernel), List.mem_of_getElem? (i := 563) (by decide +kernel), List.mem_of_getElem? (i := 564) (by decide +kernel)⟩
theorem lw_p14 : lw_okq (⟨"AlikeUnlike$Walker", "turn", "()V"⟩, 4) := ⟨⟨by decide +kernel, by decide +kernel⟩, List.mem_of_getElem? (i := 111) (by decide +kernel), List.mem_of_getElem? (i := 567) (by decide +kernel), List.mem_of_getElem? (i := 568) (by decide +kernel)⟩
theorem lw_p15 : lw_okq (⟨"AlikeUnlike$Walker", "join", "(I)V"⟩, 4) := ⟨⟨by decide +kernel, by decide +kernel⟩, List.mem_of_getElem? (i := 111) (by decide +kernel), List.mem_of_getElem? (i := 572) (by decide +kernel), List.mem_of_getElem? (i := 573) (by decide +kernel)⟩
def lw_privs_1 : List (MethodName × Nat) := [(⟨"AlikeUnlike$Form", "otherMays", "(I)I"⟩, 3), (⟨"AlikeUnlike$Page", "takes", "(I)Z"⟩, 9), (⟨"AlikeUnlike$Page", "takesFactor", "(I)Z"⟩, 9), (⟨"AlikeUnlike$Page", "goesOn", "(I)Z"⟩, 9), (⟨"AlikeUnlike$Page", "takesUnit", "(I)Z"⟩, 9), (⟨"AlikeUnlike$Page", "takesBehindUnit", "(I)Z"⟩, 9), (⟨"AlikeUnlike$Page", "takesBehindFactor", "(I)Z"⟩, 9), (⟨"AlikeUnlike$Script", "take", "(II)V"⟩, 8), (⟨"AlikeUnlike$Script", "takeDigit", "(II)V"⟩, 8), (⟨"AlikeUnlike$Script", "add", "(I)V"⟩, 8), (⟨"AlikeUnlike$Script", "hold", "(I)V"⟩, 8), (⟨"AlikeUnlike$Script", "release", "(I)V"⟩, 8), (⟨"AlikeUnlike$Walker", "push", "(J)V"⟩, 4), (⟨"AlikeUnlike$Walker", "pushField", "(I)V"⟩, 4), (⟨"AlikeUnlike$Walker", "turn", "()V"⟩, 4), (⟨"AlikeUnlike$Walker", "join", "(I)V"⟩, 4)]
theorem lw_r1 : ∀ q ∈ lw_privs_1, lw_okq q := List.forall_mem_cons.mpr ⟨lw_p0, List.forall_mem_cons.mpr ⟨lw_p1, List.forall_mem_cons.mpr ⟨lw_p2, List.forall_mem_cons.mpr ⟨lw_p3, List.forall_mem_cons.mpr ⟨lw_p4, List.forall_mem_cons.mpr ⟨lw_p5, List.forall_mem_cons.mpr ⟨lw_p6, List.forall_mem_cons.mpr ⟨lw_p7, List.forall_mem_cons.mpr ⟨lw_p8, List.forall_mem_cons.mpr ⟨lw_p9, List.forall_mem_cons.mpr ⟨lw_p10, List.forall_mem_cons.mpr ⟨lw_p11, List.forall_mem_cons.mpr ⟨lw_p12, List.forall_mem_cons.mpr ⟨lw_p13, List.forall_mem_cons.mpr ⟨lw_p14, List.forall_mem_cons.mpr ⟨lw_p15, fun _ h => absurd h List.not_mem_nil⟩⟩⟩⟩⟩⟩⟩⟩⟩⟩⟩⟩⟩⟩⟩⟩
theorem lw_p16 : lw_okq (⟨"AlikeUnlike$Walker", "endsLine", "()Z"⟩, 4) := ⟨⟨by decide +kernel, by decide +kernel⟩, List.mem_of_getElem? (i := 111) (by decide +kernel), List.mem_of_getElem? (i := 580) (by decide +kernel), List.mem_of_getElem? (i := 581) (by decide +kernel)⟩
theorem lw_p17 : lw_okq (⟨"AlikeUnlike", "hasProgram", "()Z"⟩, 15) := ⟨⟨by decide +kernel, by decide +kernel⟩, List.mem_of_getElem? (i := 18) (by decide +kernel), List.mem_of_getElem? (i := 619) (by decide +kernel), List.mem_of_getElem? (i := 620) (by decide +kernel)⟩
theorem lw_p18 : lw_okq (⟨"AlikeUnlike", "ranGuest", "(I)I"⟩, 15) := ⟨⟨by decide +kernel, by decide +kernel⟩, List.mem_of_getElem? (i := 18) (by decide +kernel), List.mem_of_getElem? (i := 623) (by decide +kernel), List.mem_of_getElem? (i := 624) (by decide +kernel)⟩
theorem lw_p19 : lw_okq (⟨"AlikeUnlike$Search", "begin", "(LAlikeUnlike$Form;I)V"⟩, 9) := ⟨⟨by decide +kernel, by decide +kernel⟩, List.mem_of_getElem? (i := 147) (by decide +kernel), List.mem_of_getElem? (i := 654) (by decide +kernel), List.mem_of_getElem? (i := 655) (by decide +kernel)⟩
theorem lw_p20 : lw_okq (⟨"AlikeUnlike$Search", "widestOf", "(I)I"⟩, 9) := ⟨⟨by decide +kernel, by decide +kernel⟩, List.mem_of_getElem? (i := 147) (by decide +kernel), List.mem_of_getElem? (i := 660) (by decide +kernel), List.mem_of_getElem? (i := 661) (by decide +kernel)⟩
theorem lw_p21 : lw_okq (⟨"AlikeUnlike$Search", "isSettled", "(LAlikeUnlike$Form;LAlikeUnlike$Script;LAlikeUnlike$Spanner;I)Z"⟩, 9) := ⟨⟨by decide +kernel, by decide +kernel⟩, List.mem_of_getElem? (i := 147) (by decide +kernel), List.mem_of_getElem? (i := 664) (by decide +kernel), List.mem_of_getElem? (i := 665) (by decide +kernel)⟩
theorem lw_p22 : lw_okq (⟨"AlikeUnlike$Search", "hasNoMore", "(I)Z"⟩, 9) := ⟨⟨by decide +kernel, by decide +kernel⟩, List.mem_of_getElem? (i := 147) (by decide +kernel), List.mem_of_getElem? (i := 668) (by decide +kernel), List.mem_of_getElem? (i := 669) (by decide +kernel)⟩
theorem lw_p23 : lw_okq (⟨"AlikeUnlike$Spanner", "push", "(JJ)V"⟩, 3) := ⟨⟨by decide +kernel, by decide +kernel⟩, List.mem_of_getElem? (i := 131) (by decide +kernel), List.mem_of_getElem? (i := 684) (by decide +kernel), List.mem_of_getElem? (i := 685) (by decide +kernel)⟩
theorem lw_p24 : lw_okq (⟨"AlikeUnlike$Spanner", "turn", "()V"⟩, 3) := ⟨⟨by decide +kernel, by decide +kernel⟩, List.mem_of_getElem? (i := 131) (by decide +kernel), List.mem_of_getElem? (i := 689) (by decide +kernel), List.mem_of_getElem? (i := 690) (by decide +kernel)⟩
theorem lw_p25 : lw_okq (⟨"AlikeUnlike$Spanner", "join", "(I)V"⟩, 3) := ⟨⟨by decide +kernel, by decide +kernel⟩, List.mem_of_getElem? (i := 131) (by decide +kernel), List.mem_of_getElem? (i := 693) (by decide +kernel), List.mem_of_getElem? (i := 694) (by decide +kernel)⟩
theorem lw_p26 : lw_okq (⟨"AlikeUnlike$Search", "pointOf", "(I)J"⟩, 9) := ⟨⟨by decide +kernel, by decide +kernel⟩, List.mem_of_getElem? (i := 147) (by decide +kernel), List.mem_of_getElem? (i := 709) (by decide +kernel), List.mem_of_getElem? (i := 710) (by decide +kernel)⟩
theorem lw_p27 : lw_okq (⟨"AlikeUnlike$Search", "cut", "(II)V"⟩, 9) := ⟨⟨by decide +kernel, by decide +kernel⟩, List.mem_of_getElem? (i := 147) (by decide +kernel), List.mem_of_getElem? (i := 714) (by decide +kernel), List.mem_of_getElem? (i := 715) (by decide +kernel)⟩
theorem lw_p28 : lw_okq (⟨"AlikeUnlike$Search", "halve", "(II)V"⟩, 9) := ⟨⟨by decide +kernel, by decide +kernel⟩, List.mem_of_getElem? (i := 147) (by decide +kernel), List.mem_of_getElem? (i := 721) (by decide +kernel), List.mem_of_getElem? (i := 722) (by decide +kernel)⟩
theorem lw_p29 : lw_okq (⟨"AlikeUnlike", "isRow", "(I)Z"⟩, 15) := ⟨⟨by decide +kernel, by decide +kernel⟩, List.mem_of_getElem? (i := 18) (by decide +kernel), List.mem_of_getElem? (i := 773) (by decide +kernel), List.mem_of_getElem? (i := 774) (by decide +kernel)⟩
theorem lw_p30 : lw_okq (⟨"AlikeUnlike$Came", "isRowHere", "(I)Z"⟩, 14) := ⟨⟨by decide +kernel, by decide +kernel⟩, List.mem_of_getElem? (i := 183) (by decide +kernel), List.mem_of_getElem? (i := 781) (by decide +kernel), List.mem_of_getElem? (i := 782) (by decide +kernel)⟩
theorem lw_p31 : lw_okq (⟨"AlikeUnlike$Came", "isAs", "(II)Z"⟩, 14) := ⟨⟨by decide +kernel, by decide +kernel⟩, List.mem_of_getElem? (i := 183) (by decide +kernel), List.mem_of_getElem? (i := 798) (by decide +kernel), List.mem_of_getElem? (i := 799) (by decide +kernel)⟩
def lw_privs_2 : List (MethodName × Nat) := [(⟨"AlikeUnlike$Walker", "endsLine", "()Z"⟩, 4), (⟨"AlikeUnlike", "hasProgram", "()Z"⟩, 15), (⟨"AlikeUnlike", "ranGuest", "(I)I"⟩, 15), (⟨"AlikeUnlike$Search", "begin", "(LAlikeUnlike$Form;I)V"⟩, 9), (⟨"AlikeUnlike$Search", "widestOf", "(I)I"⟩, 9), (⟨"AlikeUnlike$Search", "isSettled", "(LAlikeUnlike$Form;LAlikeUnlike$Script;LAlikeUnlike$Spanner;I)Z"⟩, 9), (⟨"AlikeUnlike$Search", "hasNoMore", "(I)Z"⟩, 9), (⟨"AlikeUnlike$Spanner", "push", "(JJ)V"⟩, 3), (⟨"AlikeUnlike$Spanner", "turn", "()V"⟩, 3), (⟨"AlikeUnlike$Spanner", "join", "(I)V"⟩, 3), (⟨"AlikeUnlike$Search", "pointOf", "(I)J"⟩, 9), (⟨"AlikeUnlike$Search", "cut", "(II)V"⟩, 9), (⟨"AlikeUnlike$Search", "halve", "(II)V"⟩, 9), (⟨"AlikeUnlike", "isRow", "(I)Z"⟩, 15), (⟨"AlikeUnlike$Came", "isRowHere", "(I)Z"⟩, 14), (⟨"AlikeUnlike$Came", "isAs", "(II)Z"⟩, 14)]
theorem lw_r2 : ∀ q ∈ lw_privs_2, lw_okq q := List.forall_mem_cons.mpr ⟨lw_p16, List.forall_mem_cons.mpr ⟨lw_p17, List.forall_mem_cons.mpr ⟨lw_p18, List.forall_mem_cons.mpr ⟨lw_p19, List.forall_mem_cons.mpr ⟨lw_p20, List.forall_mem_cons.mpr ⟨lw_p21, List.forall_mem_cons.mpr ⟨lw_p22, List.forall_mem_cons.mpr ⟨lw_p23, List.forall_mem_cons.mpr ⟨lw_p24, List.forall_mem_cons.mpr ⟨lw_p25, List.forall_mem_cons.mpr ⟨lw_p26, List.forall_mem_cons.mpr ⟨lw_p27, List.forall_mem_cons.mpr ⟨lw_p28, List.forall_mem_cons.mpr ⟨lw_p29, List.forall_mem_cons.mpr ⟨lw_p30, List.forall_mem_cons.mpr ⟨lw_p31, fun _ h => absurd h List.not_mem_nil⟩⟩⟩⟩⟩⟩⟩⟩⟩⟩⟩⟩⟩⟩⟩⟩
theorem lw_p32 : lw_okq (⟨"AlikeUnlike", "refusalOfGroups", "(IIIII)I"⟩, 15) := ⟨⟨by decide +kernel, by decide +kernel⟩, List.mem_of_getElem? (i := 18) (by decide +kernel), List.mem_of_getElem? (i := 808) (by decide +kernel), List.mem_of_getElem? (i := 809) (by decide +kernel)⟩
theorem lw_p33 : lw_okq (⟨"AlikeUnlike$Came", "tally", "(I)V"⟩, 14) := ⟨⟨by decide +kernel, by decide +kernel⟩, List.mem_of_getElem? (i := 183) (by decide +kernel), List.mem_of_getElem? (i := 852) (by decide +kernel), List.mem_of_getElem? (i := 853) (by decide +kernel)⟩
theorem lw_p34 : lw_okq (⟨"AlikeUnlike$Came", "lookAlong", "(III)V"⟩, 14) := ⟨⟨by decide +kernel, by decide +kernel⟩, List.mem_of_getElem? (i := 183) (by decide +kernel), List.mem_of_getElem? (i := 857) (by decide +kernel), List.mem_of_getElem? (i := 858) (by decide +kernel)⟩
theorem lw_p35 : lw_okq (⟨"AlikeUnlike$Came", "keepIfGreater", "(IIIJJ)V"⟩, 14) := ⟨⟨by decide +kernel, by decide +kernel⟩, List.mem_of_getElem? (i := 183) (by decide +kernel), List.mem_of_getElem? (i := 862) (by decide +kernel), List.mem_of_getElem? (i := 863) (by decide +kernel)⟩
theorem lw_p36 : lw_okq (⟨"AlikeUnlike$Askings", "weighOthers", "(III)V"⟩, 6) := ⟨⟨by decide +kernel, by decide +kernel⟩, List.mem_of_getElem? (i := 286) (by decide +kernel), List.mem_of_getElem? (i := 882) (by decide +kernel), List.mem_of_getElem? (i := 883) (by decide +kernel)⟩
theorem lw_p37 : lw_okq (⟨"AlikeUnlike$Askings", "met", "(IIII)I"⟩, 6) := ⟨⟨by decide +kernel, by decide +kernel⟩, List.mem_of_getElem? (i := 286) (by decide +kernel), List.mem_of_getElem? (i := 886) (by decide +kernel), List.mem_of_getElem? (i := 887) (by decide +kernel)⟩
theorem lw_p38 : lw_okq (⟨"AlikeUnlike$Mender", "gather", "(LAlikeUnlike$Came;II)V"⟩, 6) := ⟨⟨by decide +kernel, by decide +kernel⟩, List.mem_of_getElem? (i := 243) (by decide +kernel), List.mem_of_getElem? (i := 913) (by decide +kernel), List.mem_of_getElem? (i := 914) (by decide +kernel)⟩
theorem lw_p39 : lw_okq (⟨"AlikeUnlike$Mender", "isEven", "(LAlikeUnlike$Script;LAlikeUnlike$Walker;LAlikeUnlike$Came;)Z"⟩, 6) := ⟨⟨by decide +kernel, by decide +kernel⟩, List.mem_of_getElem? (i := 243) (by decide +kernel), List.mem_of_getElem? (i := 919) (by decide +kernel), List.mem_of_getElem? (i := 920) (by decide +kernel)⟩
theorem lw_p40 : lw_okq (⟨"AlikeUnlike$Mender", "keep", "(III)V"⟩, 6) := ⟨⟨by decide +kernel, by decide +kernel⟩, List.mem_of_getElem? (i := 243) (by decide +kernel), List.mem_of_getElem? (i := 929) (by decide +kernel), List.mem_of_getElem? (i := 930) (by decide +kernel)⟩
theorem lw_p41 : lw_okq (⟨"AlikeUnlike$Mender", "tryNumber", "(LAlikeUnlike$Script;LAlikeUnlike$Walker;LAlikeUnlike$Came;II)V"⟩, 6) := ⟨⟨by decide +kernel, by decide +kernel⟩, List.mem_of_getElem? (i := 243) (by decide +kernel), List.mem_of_getElem? (i := 937) (by decide +kernel), List.mem_of_getElem? (i := 938) (by decide +kernel)⟩
theorem lw_p42 : lw_okq (⟨"AlikeUnlike", "wasRefused", "(I)Z"⟩, 15) := ⟨⟨by decide +kernel, by decide +kernel⟩, List.mem_of_getElem? (i := 18) (by decide +kernel), List.mem_of_getElem? (i := 952) (by decide +kernel), List.mem_of_getElem? (i := 953) (by decide +kernel)⟩
theorem lw_p43 : lw_okq (⟨"AlikeUnlike$Cheapest", "goThrough", "(LAlikeUnlike$Form;LAlikeUnlike$Script;LAlikeUnlike$Walker;LAlikeUnlike$Person;II)V"⟩, 3) := ⟨⟨by decide +kernel, by decide +kernel⟩, List.mem_of_getElem? (i := 268) (by decide +kernel), List.mem_of_getElem? (i := 969) (by decide +kernel), List.mem_of_getElem? (i := 970) (by decide +kernel)⟩
theorem lw_p44 : lw_okq (⟨"AlikeUnlike", "foldedGuest", "(J)J"⟩, 15) := ⟨⟨by decide +kernel, by decide +kernel⟩, List.mem_of_getElem? (i := 18) (by decide +kernel), List.mem_of_getElem? (i := 1022) (by decide +kernel), List.mem_of_getElem? (i := 1023) (by decide +kernel)⟩
theorem lw_p45 : lw_okq (⟨"AlikeUnlikeModel", "mayMany", "()I"⟩, 72) := ⟨⟨by decide +kernel, by decide +kernel⟩, List.mem_of_getElem? (i := 1033) (by decide +kernel), List.mem_of_getElem? (i := 1270) (by decide +kernel), List.mem_of_getElem? (i := 1271) (by decide +kernel)⟩
theorem lw_p46 : lw_okq (⟨"AlikeUnlikeModel", "told", "(II)I"⟩, 72) := ⟨⟨by decide +kernel, by decide +kernel⟩, List.mem_of_getElem? (i := 1033) (by decide +kernel), List.mem_of_getElem? (i := 1274) (by decide +kernel), List.mem_of_getElem? (i := 1275) (by decide +kernel)⟩
theorem lw_p47 : lw_okq (⟨"AlikeUnlikeModel", "counts", "(I)Z"⟩, 72) := ⟨⟨by decide +kernel, by decide +kernel⟩, List.mem_of_getElem? (i := 1033) (by decide +kernel), List.mem_of_getElem? (i := 1286) (by decide +kernel), List.mem_of_getElem? (i := 1287) (by decide +kernel)⟩
def lw_privs_3 : List (MethodName × Nat) := [(⟨"AlikeUnlike", "refusalOfGroups", "(IIIII)I"⟩, 15), (⟨"AlikeUnlike$Came", "tally", "(I)V"⟩, 14), (⟨"AlikeUnlike$Came", "lookAlong", "(III)V"⟩, 14), (⟨"AlikeUnlike$Came", "keepIfGreater", "(IIIJJ)V"⟩, 14), (⟨"AlikeUnlike$Askings", "weighOthers", "(III)V"⟩, 6), (⟨"AlikeUnlike$Askings", "met", "(IIII)I"⟩, 6), (⟨"AlikeUnlike$Mender", "gather", "(LAlikeUnlike$Came;II)V"⟩, 6), (⟨"AlikeUnlike$Mender", "isEven", "(LAlikeUnlike$Script;LAlikeUnlike$Walker;LAlikeUnlike$Came;)Z"⟩, 6), (⟨"AlikeUnlike$Mender", "keep", "(III)V"⟩, 6), (⟨"AlikeUnlike$Mender", "tryNumber", "(LAlikeUnlike$Script;LAlikeUnlike$Walker;LAlikeUnlike$Came;II)V"⟩, 6), (⟨"AlikeUnlike", "wasRefused", "(I)Z"⟩, 15), (⟨"AlikeUnlike$Cheapest", "goThrough", "(LAlikeUnlike$Form;LAlikeUnlike$Script;LAlikeUnlike$Walker;LAlikeUnlike$Person;II)V"⟩, 3), (⟨"AlikeUnlike", "foldedGuest", "(J)J"⟩, 15), (⟨"AlikeUnlikeModel", "mayMany", "()I"⟩, 72), (⟨"AlikeUnlikeModel", "told", "(II)I"⟩, 72), (⟨"AlikeUnlikeModel", "counts", "(I)Z"⟩, 72)]
theorem lw_r3 : ∀ q ∈ lw_privs_3, lw_okq q := List.forall_mem_cons.mpr ⟨lw_p32, List.forall_mem_cons.mpr ⟨lw_p33, List.forall_mem_cons.mpr ⟨lw_p34, List.forall_mem_cons.mpr ⟨lw_p35, List.forall_mem_cons.mpr ⟨lw_p36, List.forall_mem_cons.mpr ⟨lw_p37, List.forall_mem_cons.mpr ⟨lw_p38, List.forall_mem_cons.mpr ⟨lw_p39, List.forall_mem_cons.mpr ⟨lw_p40, List.forall_mem_cons.mpr ⟨lw_p41, List.forall_mem_cons.mpr ⟨lw_p42, List.forall_mem_cons.mpr ⟨lw_p43, List.forall_mem_cons.mpr ⟨lw_p44, List.forall_mem_cons.mpr ⟨lw_p45, List.forall_mem_cons.mpr ⟨lw_p46, List.forall_mem_cons.mpr ⟨lw_p47, fun _ h => absurd h List.not_mem_nil⟩⟩⟩⟩⟩⟩⟩⟩⟩⟩⟩⟩⟩⟩⟩⟩
theorem lw_p48 : lw_okq (⟨"AlikeUnlikeModel", "faultOf", "(I)I"⟩, 72) := ⟨⟨by decide +kernel, by decide +kernel⟩, List.mem_of_getElem? (i := 1033) (by decide +kernel), List.mem_of_getElem? (i := 1303) (by decide +kernel), List.mem_of_getElem? (i := 1304) (by decide +kernel)⟩
theorem lw_p49 : lw_okq (⟨"AlikeUnlikeModel", "go", "(II)Z"⟩, 72) := ⟨⟨by decide +kernel, by decide +kernel⟩, List.mem_of_getElem? (i := 1033) (by decide +kernel), List.mem_of_getElem? (i := 1307) (by decide +kernel), List.mem_of_getElem? (i := 1308) (by decide +kernel)⟩
theorem lw_p50 : lw_okq (⟨"AlikeUnlikeModel", "goFactor", "(II)Z"⟩, 72) := ⟨⟨by decide +kernel, by decide +kernel⟩, List.mem_of_getElem? (i := 1033) (by decide +kernel), List.mem_of_getElem? (i := 1311) (by decide +kernel), List.mem_of_getElem? (i := 1312) (by decide +kernel)⟩
theorem lw_p51 : lw_okq (⟨"AlikeUnlikeModel", "takeUnit", "(I)Z"⟩, 72) := ⟨⟨by decide +kernel, by decide +kernel⟩, List.mem_of_getElem? (i := 1033) (by decide +kernel), List.mem_of_getElem? (i := 1315) (by decide +kernel), List.mem_of_getElem? (i := 1316) (by decide +kernel)⟩
theorem lw_p52 : lw_okq (⟨"AlikeUnlikeModel", "lay", "(II)V"⟩, 72) := ⟨⟨by decide +kernel, by decide +kernel⟩, List.mem_of_getElem? (i := 1033) (by decide +kernel), List.mem_of_getElem? (i := 1321) (by decide +kernel), List.mem_of_getElem? (i := 1322) (by decide +kernel)⟩
theorem lw_p53 : lw_okq (⟨"AlikeUnlikeModel", "goBehind", "(II)Z"⟩, 72) := ⟨⟨by decide +kernel, by decide +kernel⟩, List.mem_of_getElem? (i := 1033) (by decide +kernel), List.mem_of_getElem? (i := 1327) (by decide +kernel), List.mem_of_getElem? (i := 1328) (by decide +kernel)⟩
theorem lw_p54 : lw_okq (⟨"AlikeUnlikeModel", "await", "(II)V"⟩, 72) := ⟨⟨by decide +kernel, by decide +kernel⟩, List.mem_of_getElem? (i := 1033) (by decide +kernel), List.mem_of_getElem? (i := 1331) (by decide +kernel), List.mem_of_getElem? (i := 1332) (by decide +kernel)⟩
theorem lw_p55 : lw_okq (⟨"AlikeUnlikeModel", "layDown", "(I)V"⟩, 72) := ⟨⟨by decide +kernel, by decide +kernel⟩, List.mem_of_getElem? (i := 1033) (by decide +kernel), List.mem_of_getElem? (i := 1335) (by decide +kernel), List.mem_of_getElem? (i := 1336) (by decide +kernel)⟩
theorem lw_p56 : lw_okq (⟨"AlikeUnlikeModel", "goOn", "(II)Z"⟩, 72) := ⟨⟨by decide +kernel, by decide +kernel⟩, List.mem_of_getElem? (i := 1033) (by decide +kernel), List.mem_of_getElem? (i := 1339) (by decide +kernel), List.mem_of_getElem? (i := 1340) (by decide +kernel)⟩
theorem lw_p57 : lw_okq (⟨"AlikeUnlikeModel", "takePerson", "(J)Z"⟩, 72) := ⟨⟨by decide +kernel, by decide +kernel⟩, List.mem_of_getElem? (i := 1033) (by decide +kernel), List.mem_of_getElem? (i := 1359) (by decide +kernel), List.mem_of_getElem? (i := 1360) (by decide +kernel)⟩
theorem lw_p58 : lw_okq (⟨"AlikeUnlikeModel", "toldOf", "(I)I"⟩, 72) := ⟨⟨by decide +kernel, by decide +kernel⟩, List.mem_of_getElem? (i := 1033) (by decide +kernel), List.mem_of_getElem? (i := 1365) (by decide +kernel), List.mem_of_getElem? (i := 1366) (by decide +kernel)⟩
theorem lw_p59 : lw_okq (⟨"AlikeUnlikeModel", "couldCome", "()Z"⟩, 72) := ⟨⟨by decide +kernel, by decide +kernel⟩, List.mem_of_getElem? (i := 1033) (by decide +kernel), List.mem_of_getElem? (i := 1369) (by decide +kernel), List.mem_of_getElem? (i := 1370) (by decide +kernel)⟩
theorem lw_p60 : lw_okq (⟨"AlikeUnlikeModel", "takeLaw", "(I)V"⟩, 72) := ⟨⟨by decide +kernel, by decide +kernel⟩, List.mem_of_getElem? (i := 1033) (by decide +kernel), List.mem_of_getElem? (i := 1373) (by decide +kernel), List.mem_of_getElem? (i := 1374) (by decide +kernel)⟩
theorem lw_p61 : lw_okq (⟨"AlikeUnlikeModel", "holds", "([I[III)I"⟩, 72) := ⟨⟨by decide +kernel, by decide +kernel⟩, List.mem_of_getElem? (i := 1033) (by decide +kernel), List.mem_of_getElem? (i := 1377) (by decide +kernel), List.mem_of_getElem? (i := 1378) (by decide +kernel)⟩
theorem lw_p62 : lw_okq (⟨"AlikeUnlikeModel", "runWho", "()I"⟩, 72) := ⟨⟨by decide +kernel, by decide +kernel⟩, List.mem_of_getElem? (i := 1033) (by decide +kernel), List.mem_of_getElem? (i := 1387) (by decide +kernel), List.mem_of_getElem? (i := 1388) (by decide +kernel)⟩
theorem lw_p63 : lw_okq (⟨"AlikeUnlikeModel", "search", "(II)I"⟩, 72) := ⟨⟨by decide +kernel, by decide +kernel⟩, List.mem_of_getElem? (i := 1033) (by decide +kernel), List.mem_of_getElem? (i := 1396) (by decide +kernel), List.mem_of_getElem? (i := 1397) (by decide +kernel)⟩
def lw_privs_4 : List (MethodName × Nat) := [(⟨"AlikeUnlikeModel", "faultOf", "(I)I"⟩, 72), (⟨"AlikeUnlikeModel", "go", "(II)Z"⟩, 72), (⟨"AlikeUnlikeModel", "goFactor", "(II)Z"⟩, 72), (⟨"AlikeUnlikeModel", "takeUnit", "(I)Z"⟩, 72), (⟨"AlikeUnlikeModel", "lay", "(II)V"⟩, 72), (⟨"AlikeUnlikeModel", "goBehind", "(II)Z"⟩, 72), (⟨"AlikeUnlikeModel", "await", "(II)V"⟩, 72), (⟨"AlikeUnlikeModel", "layDown", "(I)V"⟩, 72), (⟨"AlikeUnlikeModel", "goOn", "(II)Z"⟩, 72), (⟨"AlikeUnlikeModel", "takePerson", "(J)Z"⟩, 72), (⟨"AlikeUnlikeModel", "toldOf", "(I)I"⟩, 72), (⟨"AlikeUnlikeModel", "couldCome", "()Z"⟩, 72), (⟨"AlikeUnlikeModel", "takeLaw", "(I)V"⟩, 72), (⟨"AlikeUnlikeModel", "holds", "([I[III)I"⟩, 72), (⟨"AlikeUnlikeModel", "runWho", "()I"⟩, 72), (⟨"AlikeUnlikeModel", "search", "(II)I"⟩, 72)]
theorem lw_r4 : ∀ q ∈ lw_privs_4, lw_okq q := List.forall_mem_cons.mpr ⟨lw_p48, List.forall_mem_cons.mpr ⟨lw_p49, List.forall_mem_cons.mpr ⟨lw_p50, List.forall_mem_cons.mpr ⟨lw_p51, List.forall_mem_cons.mpr ⟨lw_p52, List.forall_mem_cons.mpr ⟨lw_p53, List.forall_mem_cons.mpr ⟨lw_p54, List.forall_mem_cons.mpr ⟨lw_p55, List.forall_mem_cons.mpr ⟨lw_p56, List.forall_mem_cons.mpr ⟨lw_p57, List.forall_mem_cons.mpr ⟨lw_p58, List.forall_mem_cons.mpr ⟨lw_p59, List.forall_mem_cons.mpr ⟨lw_p60, List.forall_mem_cons.mpr ⟨lw_p61, List.forall_mem_cons.mpr ⟨lw_p62, List.forall_mem_cons.mpr ⟨lw_p63, fun _ h => absurd h List.not_mem_nil⟩⟩⟩⟩⟩⟩⟩⟩⟩⟩⟩⟩⟩⟩⟩⟩
theorem lw_p64 : lw_okq (⟨"AlikeUnlikeModel", "isDone", "(I)Z"⟩, 72) := ⟨⟨by decide +kernel, by decide +kernel⟩, List.mem_of_getElem? (i := 1033) (by decide +kernel), List.mem_of_getElem? (i := 1400) (by decide +kernel), List.mem_of_getElem? (i := 1401) (by decide +kernel)⟩
theorem lw_p65 : lw_okq (⟨"AlikeUnlikeModel", "onBox", "([I[IIII)I"⟩, 72) := ⟨⟨by decide +kernel, by decide +kernel⟩, List.mem_of_getElem? (i := 1033) (by decide +kernel), List.mem_of_getElem? (i := 1404) (by decide +kernel), List.mem_of_getElem? (i := 1405) (by decide +kernel)⟩
theorem lw_p66 : lw_okq (⟨"AlikeUnlikeModel", "multiply", "(I)V"⟩, 72) := ⟨⟨by decide +kernel, by decide +kernel⟩, List.mem_of_getElem? (i := 1033) (by decide +kernel), List.mem_of_getElem? (i := 1408) (by decide +kernel), List.mem_of_getElem? (i := 1409) (by decide +kernel)⟩
theorem lw_p67 : lw_okq (⟨"AlikeUnlikeModel", "endsOf", "(I)I"⟩, 72) := ⟨⟨by decide +kernel, by decide +kernel⟩, List.mem_of_getElem? (i := 1033) (by decide +kernel), List.mem_of_getElem? (i := 1418) (by decide +kernel), List.mem_of_getElem? (i := 1419) (by decide +kernel)⟩
theorem lw_p68 : lw_okq (⟨"AlikeUnlikeModel", "widest", "()I"⟩, 72) := ⟨⟨by decide +kernel, by decide +kernel⟩, List.mem_of_getElem? (i := 1033) (by decide +kernel), List.mem_of_getElem? (i := 1422) (by decide +kernel), List.mem_of_getElem? (i := 1423) (by decide +kernel)⟩
theorem lw_p69 : lw_okq (⟨"AlikeUnlikeModel", "boxPerson", "(I)J"⟩, 72) := ⟨⟨by decide +kernel, by decide +kernel⟩, List.mem_of_getElem? (i := 1033) (by decide +kernel), List.mem_of_getElem? (i := 1426) (by decide +kernel), List.mem_of_getElem? (i := 1427) (by decide +kernel)⟩
theorem lw_p70 : lw_okq (⟨"AlikeUnlikeModel", "push", "(III)V"⟩, 72) := ⟨⟨by decide +kernel, by decide +kernel⟩, List.mem_of_getElem? (i := 1033) (by decide +kernel), List.mem_of_getElem? (i := 1430) (by decide +kernel), List.mem_of_getElem? (i := 1431) (by decide +kernel)⟩
theorem lw_p71 : lw_okq (⟨"AlikeUnlikeModel", "isRow", "(I)Z"⟩, 72) := ⟨⟨by decide +kernel, by decide +kernel⟩, List.mem_of_getElem? (i := 1033) (by decide +kernel), List.mem_of_getElem? (i := 1456) (by decide +kernel), List.mem_of_getElem? (i := 1457) (by decide +kernel)⟩
theorem lw_p72 : lw_okq (⟨"AlikeUnlikeModel", "endOf", "(I)I"⟩, 72) := ⟨⟨by decide +kernel, by decide +kernel⟩, List.mem_of_getElem? (i := 1033) (by decide +kernel), List.mem_of_getElem? (i := 1460) (by decide +kernel), List.mem_of_getElem? (i := 1461) (by decide +kernel)⟩
theorem lw_p73 : lw_okq (⟨"AlikeUnlikeModel", "takeRow", "(I)V"⟩, 72) := ⟨⟨by decide +kernel, by decide +kernel⟩, List.mem_of_getElem? (i := 1033) (by decide +kernel), List.mem_of_getElem? (i := 1464) (by decide +kernel), List.mem_of_getElem? (i := 1465) (by decide +kernel)⟩
theorem lw_p74 : lw_okq (⟨"AlikeUnlikeModel", "groupOf", "(III)I"⟩, 72) := ⟨⟨by decide +kernel, by decide +kernel⟩, List.mem_of_getElem? (i := 1033) (by decide +kernel), List.mem_of_getElem? (i := 1475) (by decide +kernel), List.mem_of_getElem? (i := 1476) (by decide +kernel)⟩
theorem lw_p75 : lw_okq (⟨"AlikeUnlikeModel", "runAll", "()V"⟩, 72) := ⟨⟨by decide +kernel, by decide +kernel⟩, List.mem_of_getElem? (i := 1033) (by decide +kernel), List.mem_of_getElem? (i := 1479) (by decide +kernel), List.mem_of_getElem? (i := 1480) (by decide +kernel)⟩
theorem lw_p76 : lw_okq (⟨"AlikeUnlikeModel", "gapRefusal", "(IIIZ)I"⟩, 72) := ⟨⟨by decide +kernel, by decide +kernel⟩, List.mem_of_getElem? (i := 1033) (by decide +kernel), List.mem_of_getElem? (i := 1487) (by decide +kernel), List.mem_of_getElem? (i := 1488) (by decide +kernel)⟩
theorem lw_p77 : lw_okq (⟨"AlikeUnlikeModel", "takeGroups", "(III)V"⟩, 72) := ⟨⟨by decide +kernel, by decide +kernel⟩, List.mem_of_getElem? (i := 1033) (by decide +kernel), List.mem_of_getElem? (i := 1491) (by decide +kernel), List.mem_of_getElem? (i := 1492) (by decide +kernel)⟩
theorem lw_p78 : lw_okq (⟨"AlikeUnlikeModel", "countGroup", "(IIIZ)V"⟩, 72) := ⟨⟨by decide +kernel, by decide +kernel⟩, List.mem_of_getElem? (i := 1033) (by decide +kernel), List.mem_of_getElem? (i := 1495) (by decide +kernel), List.mem_of_getElem? (i := 1496) (by decide +kernel)⟩
theorem lw_p79 : lw_okq (⟨"AlikeUnlikeModel", "whereOf", "(I)I"⟩, 72) := ⟨⟨by decide +kernel, by decide +kernel⟩, List.mem_of_getElem? (i := 1033) (by decide +kernel), List.mem_of_getElem? (i := 1520) (by decide +kernel), List.mem_of_getElem? (i := 1521) (by decide +kernel)⟩
def lw_privs_5 : List (MethodName × Nat) := [(⟨"AlikeUnlikeModel", "isDone", "(I)Z"⟩, 72), (⟨"AlikeUnlikeModel", "onBox", "([I[IIII)I"⟩, 72), (⟨"AlikeUnlikeModel", "multiply", "(I)V"⟩, 72), (⟨"AlikeUnlikeModel", "endsOf", "(I)I"⟩, 72), (⟨"AlikeUnlikeModel", "widest", "()I"⟩, 72), (⟨"AlikeUnlikeModel", "boxPerson", "(I)J"⟩, 72), (⟨"AlikeUnlikeModel", "push", "(III)V"⟩, 72), (⟨"AlikeUnlikeModel", "isRow", "(I)Z"⟩, 72), (⟨"AlikeUnlikeModel", "endOf", "(I)I"⟩, 72), (⟨"AlikeUnlikeModel", "takeRow", "(I)V"⟩, 72), (⟨"AlikeUnlikeModel", "groupOf", "(III)I"⟩, 72), (⟨"AlikeUnlikeModel", "runAll", "()V"⟩, 72), (⟨"AlikeUnlikeModel", "gapRefusal", "(IIIZ)I"⟩, 72), (⟨"AlikeUnlikeModel", "takeGroups", "(III)V"⟩, 72), (⟨"AlikeUnlikeModel", "countGroup", "(IIIZ)V"⟩, 72), (⟨"AlikeUnlikeModel", "whereOf", "(I)I"⟩, 72)]
theorem lw_r5 : ∀ q ∈ lw_privs_5, lw_okq q := List.forall_mem_cons.mpr ⟨lw_p64, List.forall_mem_cons.mpr ⟨lw_p65, List.forall_mem_cons.mpr ⟨lw_p66, List.forall_mem_cons.mpr ⟨lw_p67, List.forall_mem_cons.mpr ⟨lw_p68, List.forall_mem_cons.mpr ⟨lw_p69, List.forall_mem_cons.mpr ⟨lw_p70, List.forall_mem_cons.mpr ⟨lw_p71, List.forall_mem_cons.mpr ⟨lw_p72, List.forall_mem_cons.mpr ⟨lw_p73, List.forall_mem_cons.mpr ⟨lw_p74, List.forall_mem_cons.mpr ⟨lw_p75, List.forall_mem_cons.mpr ⟨lw_p76, List.forall_mem_cons.mpr ⟨lw_p77, List.forall_mem_cons.mpr ⟨lw_p78, List.forall_mem_cons.mpr ⟨lw_p79, fun _ h => absurd h List.not_mem_nil⟩⟩⟩⟩⟩⟩⟩⟩⟩⟩⟩⟩⟩⟩⟩⟩
theorem lw_p80 : lw_okq (⟨"AlikeUnlikeModel", "findWhere", "()V"⟩, 72) := ⟨⟨by decide +kernel, by decide +kernel⟩, List.mem_of_getElem? (i := 1033) (by decide +kernel), List.mem_of_getElem? (i := 1524) (by decide +kernel), List.mem_of_getElem? (i := 1525) (by decide +kernel)⟩
theorem lw_p81 : lw_okq (⟨"AlikeUnlikeModel", "isNought", "(III)Z"⟩, 72) := ⟨⟨by decide +kernel, by decide +kernel⟩, List.mem_of_getElem? (i := 1033) (by decide +kernel), List.mem_of_getElem? (i := 1543) (by decide +kernel), List.mem_of_getElem? (i := 1544) (by decide +kernel)⟩
theorem lw_p82 : lw_okq (⟨"AlikeUnlikeModel", "numberMany", "()I"⟩, 72) := ⟨⟨by decide +kernel, by decide +kernel⟩, List.mem_of_getElem? (i := 1033) (by decide +kernel), List.mem_of_getElem? (i := 1547) (by decide +kernel), List.mem_of_getElem? (i := 1548) (by decide +kernel)⟩
theorem lw_p83 : lw_okq (⟨"AlikeUnlikeModel", "numberAt", "(I)I"⟩, 72) := ⟨⟨by decide +kernel, by decide +kernel⟩, List.mem_of_getElem? (i := 1033) (by decide +kernel), List.mem_of_getElem? (i := 1551) (by decide +kernel), List.mem_of_getElem? (i := 1552) (by decide +kernel)⟩
theorem lw_p84 : lw_okq (⟨"AlikeUnlikeModel", "isRefused", "(I)Z"⟩, 72) := ⟨⟨by decide +kernel, by decide +kernel⟩, List.mem_of_getElem? (i := 1033) (by decide +kernel), List.mem_of_getElem? (i := 1561) (by decide +kernel), List.mem_of_getElem? (i := 1562) (by decide +kernel)⟩
theorem lw_p85 : lw_okq (⟨"AlikeUnlikeModel", "leastPrice", "()I"⟩, 72) := ⟨⟨by decide +kernel, by decide +kernel⟩, List.mem_of_getElem? (i := 1033) (by decide +kernel), List.mem_of_getElem? (i := 1565) (by decide +kernel), List.mem_of_getElem? (i := 1566) (by decide +kernel)⟩
theorem lw_p86 : lw_okq (⟨"AlikeUnlikeModel", "mayAt", "(I)I"⟩, 72) := ⟨⟨by decide +kernel, by decide +kernel⟩, List.mem_of_getElem? (i := 1033) (by decide +kernel), List.mem_of_getElem? (i := 1569) (by decide +kernel), List.mem_of_getElem? (i := 1570) (by decide +kernel)⟩
theorem lw_p87 : lw_okq (⟨"AlikeUnlikeModel", "countOf", "(I)I"⟩, 72) := ⟨⟨by decide +kernel, by decide +kernel⟩, List.mem_of_getElem? (i := 1033) (by decide +kernel), List.mem_of_getElem? (i := 1584) (by decide +kernel), List.mem_of_getElem? (i := 1585) (by decide +kernel)⟩
theorem lw_p88 : lw_okq (⟨"AlikeUnlikeModel", "tell", "(J)V"⟩, 72) := ⟨⟨by decide +kernel, by decide +kernel⟩, List.mem_of_getElem? (i := 1033) (by decide +kernel), List.mem_of_getElem? (i := 1593) (by decide +kernel), List.mem_of_getElem? (i := 1594) (by decide +kernel)⟩
theorem lw_p89 : lw_okq (⟨"AlikeUnlikeModel", "tellWho", "()V"⟩, 72) := ⟨⟨by decide +kernel, by decide +kernel⟩, List.mem_of_getElem? (i := 1033) (by decide +kernel), List.mem_of_getElem? (i := 1598) (by decide +kernel), List.mem_of_getElem? (i := 1599) (by decide +kernel)⟩
def lw_privs_6 : List (MethodName × Nat) := [(⟨"AlikeUnlikeModel", "findWhere", "()V"⟩, 72), (⟨"AlikeUnlikeModel", "isNought", "(III)Z"⟩, 72), (⟨"AlikeUnlikeModel", "numberMany", "()I"⟩, 72), (⟨"AlikeUnlikeModel", "numberAt", "(I)I"⟩, 72), (⟨"AlikeUnlikeModel", "isRefused", "(I)Z"⟩, 72), (⟨"AlikeUnlikeModel", "leastPrice", "()I"⟩, 72), (⟨"AlikeUnlikeModel", "mayAt", "(I)I"⟩, 72), (⟨"AlikeUnlikeModel", "countOf", "(I)I"⟩, 72), (⟨"AlikeUnlikeModel", "tell", "(J)V"⟩, 72), (⟨"AlikeUnlikeModel", "tellWho", "()V"⟩, 72)]
theorem lw_r6 : ∀ q ∈ lw_privs_6, lw_okq q := List.forall_mem_cons.mpr ⟨lw_p80, List.forall_mem_cons.mpr ⟨lw_p81, List.forall_mem_cons.mpr ⟨lw_p82, List.forall_mem_cons.mpr ⟨lw_p83, List.forall_mem_cons.mpr ⟨lw_p84, List.forall_mem_cons.mpr ⟨lw_p85, List.forall_mem_cons.mpr ⟨lw_p86, List.forall_mem_cons.mpr ⟨lw_p87, List.forall_mem_cons.mpr ⟨lw_p88, List.forall_mem_cons.mpr ⟨lw_p89, fun _ h => absurd h List.not_mem_nil⟩⟩⟩⟩⟩⟩⟩⟩⟩⟩
def lw_privs : List (MethodName × Nat) := lw_privs_1 ++ (lw_privs_2 ++ (lw_privs_3 ++ (lw_privs_4 ++ (lw_privs_5 ++ (lw_privs_6)))))
def lw_tbl : List Cond := k2_sels lw_privs ++ tables_1
theorem lw_privs_ok : ∀ q ∈ lw_privs, lw_okq q := by
  show ∀ q ∈ lw_privs_1 ++ (lw_privs_2 ++ (lw_privs_3 ++ (lw_privs_4 ++ (lw_privs_5 ++ (lw_privs_6))))), lw_okq q
  exact List.forall_mem_append.mpr ⟨lw_r1, List.forall_mem_append.mpr ⟨lw_r2, List.forall_mem_append.mpr ⟨lw_r3, List.forall_mem_append.mpr ⟨lw_r4, List.forall_mem_append.mpr ⟨lw_r5, lw_r6⟩⟩⟩⟩⟩
-- ===== end of PART A; then your names; then what follows =====
end
section
def RX0 : String := "AlikeUnlike$Askings"
def TX0 : u_T := fun k => match k with
  | 0 => ("AlikeUnlike$Askings", "good", "I", false)
  | 1 => ("AlikeUnlike$Askings", "bad", "I", false)
  | 2 => ("AlikeUnlike$Askings", "otherGood", "I", false)
  | 3 => ("AlikeUnlike$Askings", "otherBad", "I", false)
  | 4 => ("AlikeUnlike$Askings", "most", "I", false)
  | _ => ("AlikeUnlike$Askings", "fewest", "I", false)
def tyX0 : Nat → FieldType := fun k => match k with
  | 0 => .int
  | 1 => .int
  | 2 => .int
  | 3 => .int
  | 4 => .int
  | _ => .int
theorem nmX0 : ∀ a, a < 6 → ∀ b, b < 6 → a ≠ b → (TX0 a).2.1 ≠ (TX0 b).2.1 := by decide +kernel
theorem tyX0_ok : ∀ k, k < 6 → parseFieldDescriptor (TX0 k).2.2.1 = some (tyX0 k) := by decide +kernel
abbrev cX0_init : ByteArray := prog_2_method_1_code
def yX0_init : MethodName := ⟨RX0, "<init>", "()V"⟩
abbrev cX0_weigh : ByteArray := prog_2_method_2_code
def yX0_weigh : MethodName := ⟨RX0, "weigh", "(IIIII)V"⟩
abbrev cX0_weighOthers : ByteArray := prog_2_method_3_code
def yX0_weighOthers : MethodName := ⟨RX0, "weighOthers", "(III)V"⟩
abbrev cX0_met : ByteArray := prog_2_method_4_code
def yX0_met : MethodName := ⟨RX0, "met", "(IIII)I"⟩
abbrev cX0_isSameShare : ByteArray := prog_2_method_5_code
def yX0_isSameShare : MethodName := ⟨RX0, "isSameShare", "(IIII)Z"⟩
abbrev cX0_answered : ByteArray := prog_2_method_6_code
def yX0_answered : MethodName := ⟨RX0, "answered", "(I)I"⟩
def RX1 : String := "AlikeUnlike$Came"
def TX1 : u_T := fun k => match k with
  | 0 => ("AlikeUnlike$Came", "people", "[LAlikeUnlike$Person;", true)
  | 1 => ("AlikeUnlike$Came", "outs", "[I", true)
  | 2 => ("AlikeUnlike$Came", "runs", "[I", true)
  | 3 => ("AlikeUnlike$Came", "size", "I", false)
  | 4 => ("AlikeUnlike$Came", "allAt", "[I", true)
  | 5 => ("AlikeUnlike$Came", "letAt", "[I", true)
  | 6 => ("AlikeUnlike$Came", "all", "I", false)
  | 7 => ("AlikeUnlike$Came", "let", "I", false)
  | 8 => ("AlikeUnlike$Came", "field", "I", false)
  | 9 => ("AlikeUnlike$Came", "least", "I", false)
  | 10 => ("AlikeUnlike$Came", "greatest", "I", false)
  | 11 => ("AlikeUnlike$Came", "above", "J", false)
  | 12 => ("AlikeUnlike$Came", "below", "J", false)
  | _ => ("AlikeUnlike$Came", "paid", "I", false)
def tyX1 : Nat → FieldType := fun k => match k with
  | 0 => .array (.object "AlikeUnlike$Person")
  | 1 => .array .int
  | 2 => .array .int
  | 3 => .int
  | 4 => .array .int
  | 5 => .array .int
  | 6 => .int
  | 7 => .int
  | 8 => .int
  | 9 => .int
  | 10 => .int
  | 11 => .long
  | 12 => .long
  | _ => .int
theorem nmX1 : ∀ a, a < 14 → ∀ b, b < 14 → a ≠ b → (TX1 a).2.1 ≠ (TX1 b).2.1 := by decide +kernel
theorem tyX1_ok : ∀ k, k < 14 → parseFieldDescriptor (TX1 k).2.2.1 = some (tyX1 k) := by decide +kernel
abbrev cX1_init : ByteArray := prog_3_method_1_code
def yX1_init : MethodName := ⟨RX1, "<init>", "()V"⟩
abbrev cX1_size : ByteArray := prog_3_method_2_code
def yX1_size : MethodName := ⟨RX1, "size", "()I"⟩
abbrev cX1_add : ByteArray := prog_3_method_3_code
def yX1_add : MethodName := ⟨RX1, "add", "(LAlikeUnlike$Person;II)V"⟩
abbrev cX1_runAll : ByteArray := prog_3_method_4_code
def yX1_runAll : MethodName := ⟨RX1, "runAll", "(LAlikeUnlike$Walker;LAlikeUnlike$Script;)V"⟩
abbrev cX1_person : ByteArray := prog_3_method_5_code
def yX1_person : MethodName := ⟨RX1, "person", "(I)LAlikeUnlike$Person;"⟩
abbrev cX1_isRowHere : ByteArray := prog_3_method_6_code
def yX1_isRowHere : MethodName := ⟨RX1, "isRowHere", "(I)Z"⟩
abbrev cX1_ended : ByteArray := prog_3_method_7_code
def yX1_ended : MethodName := ⟨RX1, "ended", "(I)I"⟩
abbrev cX1_number : ByteArray := prog_3_method_8_code
def yX1_number : MethodName := ⟨RX1, "number", "(II)I"⟩
abbrev cX1_isWhole : ByteArray := prog_3_method_9_code
def yX1_isWhole : MethodName := ⟨RX1, "isWhole", "(I)Z"⟩
abbrev cX1_copyTo : ByteArray := prog_3_method_10_code
def yX1_copyTo : MethodName := ⟨RX1, "copyTo", "(ILAlikeUnlike$Person;)V"⟩
abbrev cX1_folded : ByteArray := prog_3_method_11_code
def yX1_folded : MethodName := ⟨RX1, "folded", "(J)J"⟩
abbrev cX1_members : ByteArray := prog_3_method_12_code
def yX1_members : MethodName := ⟨RX1, "members", "(III)I"⟩
abbrev cX1_isAs : ByteArray := prog_3_method_13_code
def yX1_isAs : MethodName := ⟨RX1, "isAs", "(II)Z"⟩
abbrev cX1_gapAbove : ByteArray := prog_3_method_14_code
def yX1_gapAbove : MethodName := ⟨RX1, "gapAbove", "(III)J"⟩
abbrev cX1_gapBelow : ByteArray := prog_3_method_15_code
def yX1_gapBelow : MethodName := ⟨RX1, "gapBelow", "(III)J"⟩
abbrev cX1_dealsAsGreat : ByteArray := prog_3_method_16_code
def yX1_dealsAsGreat : MethodName := ⟨RX1, "dealsAsGreat", "(III)J"⟩
abbrev cX1_findGreatestGap : ByteArray := prog_3_method_17_code
def yX1_findGreatestGap : MethodName := ⟨RX1, "findGreatestGap", "(LAlikeUnlike$Form;)V"⟩
abbrev cX1_tally : ByteArray := prog_3_method_18_code
def yX1_tally : MethodName := ⟨RX1, "tally", "(I)V"⟩
abbrev cX1_lookAlong : ByteArray := prog_3_method_19_code
def yX1_lookAlong : MethodName := ⟨RX1, "lookAlong", "(III)V"⟩
abbrev cX1_keepIfGreater : ByteArray := prog_3_method_20_code
def yX1_keepIfGreater : MethodName := ⟨RX1, "keepIfGreater", "(IIIJJ)V"⟩
abbrev cX1_whereTold : ByteArray := prog_3_method_21_code
def yX1_whereTold : MethodName := ⟨RX1, "whereTold", "(I)I"⟩
def RX2 : String := "AlikeUnlike$Cheapest"
def TX2 : u_T := fun k => match k with
  | 0 => ("AlikeUnlike$Cheapest", "tried", "LAlikeUnlike$Person;", true)
  | 1 => ("AlikeUnlike$Cheapest", "best", "LAlikeUnlike$Person;", true)
  | _ => ("AlikeUnlike$Cheapest", "bestPrice", "I", false)
def tyX2 : Nat → FieldType := fun k => match k with
  | 0 => .object "AlikeUnlike$Person"
  | 1 => .object "AlikeUnlike$Person"
  | _ => .int
theorem nmX2 : ∀ a, a < 3 → ∀ b, b < 3 → a ≠ b → (TX2 a).2.1 ≠ (TX2 b).2.1 := by decide +kernel
theorem tyX2_ok : ∀ k, k < 3 → parseFieldDescriptor (TX2 k).2.2.1 = some (tyX2 k) := by decide +kernel
abbrev cX2_init : ByteArray := prog_4_method_1_code
def yX2_init : MethodName := ⟨RX2, "<init>", "()V"⟩
abbrev cX2_find : ByteArray := prog_4_method_2_code
def yX2_find : MethodName := ⟨RX2, "find", "(LAlikeUnlike$Form;LAlikeUnlike$Script;LAlikeUnlike$Walker;LAlikeUnlike$Person;)I"⟩
abbrev cX2_number : ByteArray := prog_4_method_3_code
def yX2_number : MethodName := ⟨RX2, "number", "(I)I"⟩
abbrev cX2_goThrough : ByteArray := prog_4_method_4_code
def yX2_goThrough : MethodName := ⟨RX2, "goThrough", "(LAlikeUnlike$Form;LAlikeUnlike$Script;LAlikeUnlike$Walker;LAlikeUnlike$Person;II)V"⟩
def RX3 : String := "AlikeUnlike$Form"
def TX3 : u_T := fun k => match k with
  | 0 => ("AlikeUnlike$Form", "told", "[I", true)
  | 1 => ("AlikeUnlike$Form", "laws", "[LAlikeUnlike$Script;", true)
  | _ => ("AlikeUnlike$Form", "lawCount", "I", false)
def tyX3 : Nat → FieldType := fun k => match k with
  | 0 => .array .int
  | 1 => .array (.object "AlikeUnlike$Script")
  | _ => .int
theorem nmX3 : ∀ a, a < 3 → ∀ b, b < 3 → a ≠ b → (TX3 a).2.1 ≠ (TX3 b).2.1 := by decide +kernel
theorem tyX3_ok : ∀ k, k < 3 → parseFieldDescriptor (TX3 k).2.2.1 = some (tyX3 k) := by decide +kernel
abbrev cX3_init : ByteArray := prog_5_method_1_code
def yX3_init : MethodName := ⟨RX3, "<init>", "()V"⟩
abbrev cX3_told : ByteArray := prog_5_method_2_code
def yX3_told : MethodName := ⟨RX3, "told", "(II)I"⟩
abbrev cX3_tell : ByteArray := prog_5_method_3_code
def yX3_tell : MethodName := ⟨RX3, "tell", "(III)V"⟩
abbrev cX3_fits : ByteArray := prog_5_method_4_code
def yX3_fits : MethodName := ⟨RX3, "fits", "(III)Z"⟩
abbrev cX3_allows : ByteArray := prog_5_method_5_code
def yX3_allows : MethodName := ⟨RX3, "allows", "(III)Z"⟩
abbrev cX3_otherMays : ByteArray := prog_5_method_6_code
def yX3_otherMays : MethodName := ⟨RX3, "otherMays", "(I)I"⟩
abbrev cX3_isOfKind : ByteArray := prog_5_method_7_code
def yX3_isOfKind : MethodName := ⟨RX3, "isOfKind", "(II)Z"⟩
abbrev cX3_counts : ByteArray := prog_5_method_8_code
def yX3_counts : MethodName := ⟨RX3, "counts", "(I)Z"⟩
abbrev cX3_changes : ByteArray := prog_5_method_9_code
def yX3_changes : MethodName := ⟨RX3, "changes", "(I)Z"⟩
abbrev cX3_isInSpan : ByteArray := prog_5_method_10_code
def yX3_isInSpan : MethodName := ⟨RX3, "isInSpan", "(II)Z"⟩
abbrev cX3_laws : ByteArray := prog_5_method_11_code
def yX3_laws : MethodName := ⟨RX3, "laws", "()I"⟩
abbrev cX3_addLaw : ByteArray := prog_5_method_12_code
def yX3_addLaw : MethodName := ⟨RX3, "addLaw", "(LAlikeUnlike$Page;)V"⟩
abbrev cX3_dropLaw : ByteArray := prog_5_method_13_code
def yX3_dropLaw : MethodName := ⟨RX3, "dropLaw", "()V"⟩
abbrev cX3_isInSpans : ByteArray := prog_5_method_14_code
def yX3_isInSpans : MethodName := ⟨RX3, "isInSpans", "(LAlikeUnlike$Person;)Z"⟩
abbrev cX3_keepsLaws : ByteArray := prog_5_method_15_code
def yX3_keepsLaws : MethodName := ⟨RX3, "keepsLaws", "(LAlikeUnlike$Person;LAlikeUnlike$Walker;)Z"⟩
abbrev cX3_barsBox : ByteArray := prog_5_method_16_code
def yX3_barsBox : MethodName := ⟨RX3, "barsBox", "(LAlikeUnlike$Spanner;[II)Z"⟩
abbrev cX3_folded : ByteArray := prog_5_method_17_code
def yX3_folded : MethodName := ⟨RX3, "folded", "(J)J"⟩
def RX4 : String := "AlikeUnlike$Mender"
def TX4 : u_T := fun k => match k with
  | 0 => ("AlikeUnlike$Mender", "rows", "[I", true)
  | 1 => ("AlikeUnlike$Mender", "size", "I", false)
  | 2 => ("AlikeUnlike$Mender", "firstSize", "I", false)
  | 3 => ("AlikeUnlike$Mender", "place", "I", false)
  | 4 => ("AlikeUnlike$Mender", "value", "I", false)
  | _ => ("AlikeUnlike$Mender", "change", "I", false)
def tyX4 : Nat → FieldType := fun k => match k with
  | 0 => .array .int
  | 1 => .int
  | 2 => .int
  | 3 => .int
  | 4 => .int
  | _ => .int
theorem nmX4 : ∀ a, a < 6 → ∀ b, b < 6 → a ≠ b → (TX4 a).2.1 ≠ (TX4 b).2.1 := by decide +kernel
theorem tyX4_ok : ∀ k, k < 6 → parseFieldDescriptor (TX4 k).2.2.1 = some (tyX4 k) := by decide +kernel
abbrev cX4_init : ByteArray := prog_6_method_1_code
def yX4_init : MethodName := ⟨RX4, "<init>", "()V"⟩
abbrev cX4_find : ByteArray := prog_6_method_2_code
def yX4_find : MethodName := ⟨RX4, "find", "(LAlikeUnlike$Script;LAlikeUnlike$Walker;LAlikeUnlike$Came;III)V"⟩
abbrev cX4_found : ByteArray := prog_6_method_3_code
def yX4_found : MethodName := ⟨RX4, "found", "(I)I"⟩
abbrev cX4_keep : ByteArray := prog_6_method_4_code
def yX4_keep : MethodName := ⟨RX4, "keep", "(III)V"⟩
abbrev cX4_gather : ByteArray := prog_6_method_5_code
def yX4_gather : MethodName := ⟨RX4, "gather", "(LAlikeUnlike$Came;II)V"⟩
abbrev cX4_tryNumber : ByteArray := prog_6_method_6_code
def yX4_tryNumber : MethodName := ⟨RX4, "tryNumber", "(LAlikeUnlike$Script;LAlikeUnlike$Walker;LAlikeUnlike$Came;II)V"⟩
abbrev cX4_isEven : ByteArray := prog_6_method_7_code
def yX4_isEven : MethodName := ⟨RX4, "isEven", "(LAlikeUnlike$Script;LAlikeUnlike$Walker;LAlikeUnlike$Came;)Z"⟩
def RX5 : String := "AlikeUnlike$Page"
def TX5 : u_T := fun k => match k with
  | 0 => ("AlikeUnlike$Page", "letters", "[I", true)
  | 1 => ("AlikeUnlike$Page", "size", "I", false)
  | 2 => ("AlikeUnlike$Page", "sort", "I", false)
  | 3 => ("AlikeUnlike$Page", "next", "I", false)
  | 4 => ("AlikeUnlike$Page", "open", "I", false)
  | 5 => ("AlikeUnlike$Page", "units", "I", false)
  | 6 => ("AlikeUnlike$Page", "isRightSide", "Z", false)
  | 7 => ("AlikeUnlike$Page", "isLineStart", "Z", false)
  | _ => ("AlikeUnlike$Page", "isLastLine", "Z", false)
def tyX5 : Nat → FieldType := fun k => match k with
  | 0 => .array .int
  | 1 => .int
  | 2 => .int
  | 3 => .int
  | 4 => .int
  | 5 => .int
  | 6 => .boolean
  | 7 => .boolean
  | _ => .boolean
theorem nmX5 : ∀ a, a < 9 → ∀ b, b < 9 → a ≠ b → (TX5 a).2.1 ≠ (TX5 b).2.1 := by decide +kernel
theorem tyX5_ok : ∀ k, k < 9 → parseFieldDescriptor (TX5 k).2.2.1 = some (tyX5 k) := by decide +kernel
abbrev cX5_init : ByteArray := prog_7_method_1_code
def yX5_init : MethodName := ⟨RX5, "<init>", "()V"⟩
abbrev cX5_lettersIn : ByteArray := prog_7_method_2_code
def yX5_lettersIn : MethodName := ⟨RX5, "lettersIn", "(J)I"⟩
abbrev cX5_letterOf : ByteArray := prog_7_method_3_code
def yX5_letterOf : MethodName := ⟨RX5, "letterOf", "(JI)I"⟩
abbrev cX5_append : ByteArray := prog_7_method_4_code
def yX5_append : MethodName := ⟨RX5, "append", "(JI)V"⟩
abbrev cX5_clear : ByteArray := prog_7_method_5_code
def yX5_clear : MethodName := ⟨RX5, "clear", "()V"⟩
abbrev cX5_size : ByteArray := prog_7_method_6_code
def yX5_size : MethodName := ⟨RX5, "size", "()I"⟩
abbrev cX5_letter : ByteArray := prog_7_method_7_code
def yX5_letter : MethodName := ⟨RX5, "letter", "(I)I"⟩
abbrev cX5_folded : ByteArray := prog_7_method_8_code
def yX5_folded : MethodName := ⟨RX5, "folded", "(J)J"⟩
abbrev cX5_isWhole : ByteArray := prog_7_method_9_code
def yX5_isWhole : MethodName := ⟨RX5, "isWhole", "(I)Z"⟩
abbrev cX5_firstFault : ByteArray := prog_7_method_10_code
def yX5_firstFault : MethodName := ⟨RX5, "firstFault", "(I)I"⟩
abbrev cX5_takes : ByteArray := prog_7_method_11_code
def yX5_takes : MethodName := ⟨RX5, "takes", "(I)Z"⟩
abbrev cX5_goesOn : ByteArray := prog_7_method_12_code
def yX5_goesOn : MethodName := ⟨RX5, "goesOn", "(I)Z"⟩
abbrev cX5_takesFactor : ByteArray := prog_7_method_13_code
def yX5_takesFactor : MethodName := ⟨RX5, "takesFactor", "(I)Z"⟩
abbrev cX5_takesUnit : ByteArray := prog_7_method_14_code
def yX5_takesUnit : MethodName := ⟨RX5, "takesUnit", "(I)Z"⟩
abbrev cX5_takesBehindUnit : ByteArray := prog_7_method_15_code
def yX5_takesBehindUnit : MethodName := ⟨RX5, "takesBehindUnit", "(I)Z"⟩
abbrev cX5_takesBehindFactor : ByteArray := prog_7_method_16_code
def yX5_takesBehindFactor : MethodName := ⟨RX5, "takesBehindFactor", "(I)Z"⟩
def RX6 : String := "AlikeUnlike$Person"
def TX6 : u_T := fun k => match k with
  | _ => ("AlikeUnlike$Person", "numbers", "[I", true)
def tyX6 : Nat → FieldType := fun k => match k with
  | _ => .array .int
theorem nmX6 : ∀ a, a < 1 → ∀ b, b < 1 → a ≠ b → (TX6 a).2.1 ≠ (TX6 b).2.1 := by decide +kernel
theorem tyX6_ok : ∀ k, k < 1 → parseFieldDescriptor (TX6 k).2.2.1 = some (tyX6 k) := by decide +kernel
abbrev cX6_init : ByteArray := prog_8_method_1_code
def yX6_init : MethodName := ⟨RX6, "<init>", "()V"⟩
abbrev cX6_read : ByteArray := prog_8_method_2_code
def yX6_read : MethodName := ⟨RX6, "read", "(J)Z"⟩
abbrev cX6_told : ByteArray := prog_8_method_3_code
def yX6_told : MethodName := ⟨RX6, "told", "()J"⟩
abbrev cX6_number : ByteArray := prog_8_method_4_code
def yX6_number : MethodName := ⟨RX6, "number", "(I)I"⟩
abbrev cX6_put : ByteArray := prog_8_method_5_code
def yX6_put : MethodName := ⟨RX6, "put", "(II)V"⟩
abbrev cX6_copy : ByteArray := prog_8_method_6_code
def yX6_copy : MethodName := ⟨RX6, "copy", "(LAlikeUnlike$Person;)V"⟩
abbrev cX6_isWhole : ByteArray := prog_8_method_7_code
def yX6_isWhole : MethodName := ⟨RX6, "isWhole", "()Z"⟩
def RX7 : String := "AlikeUnlike$Script"
def TX7 : u_T := fun k => match k with
  | 0 => ("AlikeUnlike$Script", "codes", "[I", true)
  | 1 => ("AlikeUnlike$Script", "numbers", "[I", true)
  | 2 => ("AlikeUnlike$Script", "held", "[I", true)
  | 3 => ("AlikeUnlike$Script", "size", "I", false)
  | 4 => ("AlikeUnlike$Script", "numberCount", "I", false)
  | 5 => ("AlikeUnlike$Script", "lineCount", "I", false)
  | 6 => ("AlikeUnlike$Script", "lineStart", "I", false)
  | _ => ("AlikeUnlike$Script", "holding", "I", false)
def tyX7 : Nat → FieldType := fun k => match k with
  | 0 => .array .int
  | 1 => .array .int
  | 2 => .array .int
  | 3 => .int
  | 4 => .int
  | 5 => .int
  | 6 => .int
  | _ => .int
theorem nmX7 : ∀ a, a < 8 → ∀ b, b < 8 → a ≠ b → (TX7 a).2.1 ≠ (TX7 b).2.1 := by decide +kernel
theorem tyX7_ok : ∀ k, k < 8 → parseFieldDescriptor (TX7 k).2.2.1 = some (tyX7 k) := by decide +kernel
abbrev cX7_init : ByteArray := prog_9_method_1_code
def yX7_init : MethodName := ⟨RX7, "<init>", "()V"⟩
abbrev cX7_write : ByteArray := prog_9_method_2_code
def yX7_write : MethodName := ⟨RX7, "write", "(LAlikeUnlike$Page;)V"⟩
abbrev cX7_take : ByteArray := prog_9_method_3_code
def yX7_take : MethodName := ⟨RX7, "take", "(II)V"⟩
abbrev cX7_takeDigit : ByteArray := prog_9_method_4_code
def yX7_takeDigit : MethodName := ⟨RX7, "takeDigit", "(II)V"⟩
abbrev cX7_rank : ByteArray := prog_9_method_5_code
def yX7_rank : MethodName := ⟨RX7, "rank", "(I)I"⟩
abbrev cX7_add : ByteArray := prog_9_method_6_code
def yX7_add : MethodName := ⟨RX7, "add", "(I)V"⟩
abbrev cX7_hold : ByteArray := prog_9_method_7_code
def yX7_hold : MethodName := ⟨RX7, "hold", "(I)V"⟩
abbrev cX7_release : ByteArray := prog_9_method_8_code
def yX7_release : MethodName := ⟨RX7, "release", "(I)V"⟩
abbrev cX7_size : ByteArray := prog_9_method_9_code
def yX7_size : MethodName := ⟨RX7, "size", "()I"⟩
abbrev cX7_code : ByteArray := prog_9_method_10_code
def yX7_code : MethodName := ⟨RX7, "code", "(I)I"⟩
abbrev cX7_lines : ByteArray := prog_9_method_11_code
def yX7_lines : MethodName := ⟨RX7, "lines", "()I"⟩
abbrev cX7_numbers : ByteArray := prog_9_method_12_code
def yX7_numbers : MethodName := ⟨RX7, "numbers", "()I"⟩
abbrev cX7_number : ByteArray := prog_9_method_13_code
def yX7_number : MethodName := ⟨RX7, "number", "(I)I"⟩
abbrev cX7_putNumber : ByteArray := prog_9_method_14_code
def yX7_putNumber : MethodName := ⟨RX7, "putNumber", "(II)V"⟩
def RX8 : String := "AlikeUnlike$Search"
def TX8 : u_T := fun k => match k with
  | 0 => ("AlikeUnlike$Search", "spans", "[I", true)
  | 1 => ("AlikeUnlike$Search", "isShared", "[Z", true)
  | 2 => ("AlikeUnlike$Search", "more", "I", false)
  | 3 => ("AlikeUnlike$Search", "top", "I", false)
  | 4 => ("AlikeUnlike$Search", "looked", "I", false)
  | 5 => ("AlikeUnlike$Search", "cuts", "I", false)
  | 6 => ("AlikeUnlike$Search", "settled", "I", false)
  | 7 => ("AlikeUnlike$Search", "first", "J", false)
  | _ => ("AlikeUnlike$Search", "second", "J", false)
def tyX8 : Nat → FieldType := fun k => match k with
  | 0 => .array .int
  | 1 => .array .boolean
  | 2 => .int
  | 3 => .int
  | 4 => .int
  | 5 => .int
  | 6 => .int
  | 7 => .long
  | _ => .long
theorem nmX8 : ∀ a, a < 9 → ∀ b, b < 9 → a ≠ b → (TX8 a).2.1 ≠ (TX8 b).2.1 := by decide +kernel
theorem tyX8_ok : ∀ k, k < 9 → parseFieldDescriptor (TX8 k).2.2.1 = some (tyX8 k) := by decide +kernel
abbrev cX8_init : ByteArray := prog_10_method_1_code
def yX8_init : MethodName := ⟨RX8, "<init>", "()V"⟩
abbrev cX8_over : ByteArray := prog_10_method_2_code
def yX8_over : MethodName := ⟨RX8, "over", "(LAlikeUnlike$Form;LAlikeUnlike$Script;LAlikeUnlike$Spanner;II)I"⟩
abbrev cX8_tallied : ByteArray := prog_10_method_3_code
def yX8_tallied : MethodName := ⟨RX8, "tallied", "(I)I"⟩
abbrev cX8_shown : ByteArray := prog_10_method_4_code
def yX8_shown : MethodName := ⟨RX8, "shown", "(I)J"⟩
abbrev cX8_begin : ByteArray := prog_10_method_5_code
def yX8_begin : MethodName := ⟨RX8, "begin", "(LAlikeUnlike$Form;I)V"⟩
abbrev cX8_isSettled : ByteArray := prog_10_method_6_code
def yX8_isSettled : MethodName := ⟨RX8, "isSettled", "(LAlikeUnlike$Form;LAlikeUnlike$Script;LAlikeUnlike$Spanner;I)Z"⟩
abbrev cX8_hasNoMore : ByteArray := prog_10_method_7_code
def yX8_hasNoMore : MethodName := ⟨RX8, "hasNoMore", "(I)Z"⟩
abbrev cX8_widestOf : ByteArray := prog_10_method_8_code
def yX8_widestOf : MethodName := ⟨RX8, "widestOf", "(I)I"⟩
abbrev cX8_cut : ByteArray := prog_10_method_9_code
def yX8_cut : MethodName := ⟨RX8, "cut", "(II)V"⟩
abbrev cX8_halve : ByteArray := prog_10_method_10_code
def yX8_halve : MethodName := ⟨RX8, "halve", "(II)V"⟩
abbrev cX8_pointOf : ByteArray := prog_10_method_11_code
def yX8_pointOf : MethodName := ⟨RX8, "pointOf", "(I)J"⟩
def RX9 : String := "AlikeUnlike$Spanner"
def TX9 : u_T := fun k => match k with
  | 0 => ("AlikeUnlike$Spanner", "lows", "[J", true)
  | 1 => ("AlikeUnlike$Spanner", "highs", "[J", true)
  | _ => ("AlikeUnlike$Spanner", "top", "I", false)
def tyX9 : Nat → FieldType := fun k => match k with
  | 0 => .array .long
  | 1 => .array .long
  | _ => .int
theorem nmX9 : ∀ a, a < 3 → ∀ b, b < 3 → a ≠ b → (TX9 a).2.1 ≠ (TX9 b).2.1 := by decide +kernel
theorem tyX9_ok : ∀ k, k < 3 → parseFieldDescriptor (TX9 k).2.2.1 = some (tyX9 k) := by decide +kernel
abbrev cX9_init : ByteArray := prog_11_method_1_code
def yX9_init : MethodName := ⟨RX9, "<init>", "()V"⟩
abbrev cX9_endsOver : ByteArray := prog_11_method_2_code
def yX9_endsOver : MethodName := ⟨RX9, "endsOver", "(LAlikeUnlike$Script;[II)I"⟩
abbrev cX9_wasNever : ByteArray := prog_11_method_3_code
def yX9_wasNever : MethodName := ⟨RX9, "wasNever", "()Z"⟩
abbrev cX9_push : ByteArray := prog_11_method_4_code
def yX9_push : MethodName := ⟨RX9, "push", "(JJ)V"⟩
abbrev cX9_turn : ByteArray := prog_11_method_5_code
def yX9_turn : MethodName := ⟨RX9, "turn", "()V"⟩
abbrev cX9_join : ByteArray := prog_11_method_6_code
def yX9_join : MethodName := ⟨RX9, "join", "(I)V"⟩
def RX10 : String := "AlikeUnlike$Walker"
def TX10 : u_T := fun k => match k with
  | 0 => ("AlikeUnlike$Walker", "pile", "[J", true)
  | 1 => ("AlikeUnlike$Walker", "top", "I", false)
  | 2 => ("AlikeUnlike$Walker", "readMissing", "Z", false)
  | _ => ("AlikeUnlike$Walker", "line", "I", false)
def tyX10 : Nat → FieldType := fun k => match k with
  | 0 => .array .long
  | 1 => .int
  | 2 => .boolean
  | _ => .int
theorem nmX10 : ∀ a, a < 4 → ∀ b, b < 4 → a ≠ b → (TX10 a).2.1 ≠ (TX10 b).2.1 := by decide +kernel
theorem tyX10_ok : ∀ k, k < 4 → parseFieldDescriptor (TX10 k).2.2.1 = some (tyX10 k) := by decide +kernel
abbrev cX10_init : ByteArray := prog_12_method_1_code
def yX10_init : MethodName := ⟨RX10, "<init>", "()V"⟩
abbrev cX10_walk : ByteArray := prog_12_method_2_code
def yX10_walk : MethodName := ⟨RX10, "walk", "(LAlikeUnlike$Script;LAlikeUnlike$Person;)I"⟩
abbrev cX10_line : ByteArray := prog_12_method_3_code
def yX10_line : MethodName := ⟨RX10, "line", "()I"⟩
abbrev cX10_endsLine : ByteArray := prog_12_method_4_code
def yX10_endsLine : MethodName := ⟨RX10, "endsLine", "()Z"⟩
abbrev cX10_push : ByteArray := prog_12_method_5_code
def yX10_push : MethodName := ⟨RX10, "push", "(J)V"⟩
abbrev cX10_pushField : ByteArray := prog_12_method_6_code
def yX10_pushField : MethodName := ⟨RX10, "pushField", "(I)V"⟩
abbrev cX10_turn : ByteArray := prog_12_method_7_code
def yX10_turn : MethodName := ⟨RX10, "turn", "()V"⟩
abbrev cX10_join : ByteArray := prog_12_method_8_code
def yX10_join : MethodName := ⟨RX10, "join", "(I)V"⟩
abbrev cX10_joined : ByteArray := prog_12_method_9_code
def yX10_joined : MethodName := ⟨RX10, "joined", "(IJJ)J"⟩
def RX11 : String := "AlikeUnlike"
def TX11 : u_T := fun k => match k with
  | 0 => ("AlikeUnlike", "form", "LAlikeUnlike$Form;", true)
  | 1 => ("AlikeUnlike", "page", "LAlikeUnlike$Page;", true)
  | 2 => ("AlikeUnlike", "script", "LAlikeUnlike$Script;", true)
  | 3 => ("AlikeUnlike", "walker", "LAlikeUnlike$Walker;", true)
  | 4 => ("AlikeUnlike", "spanner", "LAlikeUnlike$Spanner;", true)
  | 5 => ("AlikeUnlike", "search", "LAlikeUnlike$Search;", true)
  | 6 => ("AlikeUnlike", "came", "LAlikeUnlike$Came;", true)
  | 7 => ("AlikeUnlike", "mender", "LAlikeUnlike$Mender;", true)
  | 8 => ("AlikeUnlike", "cheapest", "LAlikeUnlike$Cheapest;", true)
  | 9 => ("AlikeUnlike", "asked", "LAlikeUnlike$Askings;", true)
  | 10 => ("AlikeUnlike", "guest", "LAlikeUnlike$Person;", true)
  | 11 => ("AlikeUnlike", "bound", "LAlikeUnlike$Person;", true)
  | 12 => ("AlikeUnlike", "spans", "[I", true)
  | 13 => ("AlikeUnlike", "seeks", "I", false)
  | _ => ("AlikeUnlike", "mends", "I", false)
def tyX11 : Nat → FieldType := fun k => match k with
  | 0 => .object "AlikeUnlike$Form"
  | 1 => .object "AlikeUnlike$Page"
  | 2 => .object "AlikeUnlike$Script"
  | 3 => .object "AlikeUnlike$Walker"
  | 4 => .object "AlikeUnlike$Spanner"
  | 5 => .object "AlikeUnlike$Search"
  | 6 => .object "AlikeUnlike$Came"
  | 7 => .object "AlikeUnlike$Mender"
  | 8 => .object "AlikeUnlike$Cheapest"
  | 9 => .object "AlikeUnlike$Askings"
  | 10 => .object "AlikeUnlike$Person"
  | 11 => .object "AlikeUnlike$Person"
  | 12 => .array .int
  | 13 => .int
  | _ => .int
theorem nmX11 : ∀ a, a < 15 → ∀ b, b < 15 → a ≠ b → (TX11 a).2.1 ≠ (TX11 b).2.1 := by decide +kernel
theorem tyX11_ok : ∀ k, k < 15 → parseFieldDescriptor (TX11 k).2.2.1 = some (tyX11 k) := by decide +kernel
abbrev cX11_init : ByteArray := prog_1_method_1_code
def yX11_init : MethodName := ⟨RX11, "<init>", "()V"⟩
abbrev cX11_field : ByteArray := prog_1_method_2_code
def yX11_field : MethodName := ⟨RX11, "field", "(III)I"⟩
abbrev cX11_as : ByteArray := prog_1_method_3_code
def yX11_as : MethodName := ⟨RX11, "as", "(II)I"⟩
abbrev cX11_asks : ByteArray := prog_1_method_4_code
def yX11_asks : MethodName := ⟨RX11, "asks", "(II)I"⟩
abbrev cX11_letters : ByteArray := prog_1_method_5_code
def yX11_letters : MethodName := ⟨RX11, "letters", "(J)I"⟩
abbrev cX11_blank : ByteArray := prog_1_method_6_code
def yX11_blank : MethodName := ⟨RX11, "blank", "()I"⟩
abbrev cX11_fault : ByteArray := prog_1_method_7_code
def yX11_fault : MethodName := ⟨RX11, "fault", "(I)I"⟩
abbrev cX11_program : ByteArray := prog_1_method_8_code
def yX11_program : MethodName := ⟨RX11, "program", "()I"⟩
abbrev cX11_law : ByteArray := prog_1_method_9_code
def yX11_law : MethodName := ⟨RX11, "law", "()I"⟩
abbrev cX11_strike : ByteArray := prog_1_method_10_code
def yX11_strike : MethodName := ⟨RX11, "strike", "()I"⟩
abbrev cX11_run : ByteArray := prog_1_method_11_code
def yX11_run : MethodName := ⟨RX11, "run", "(JI)I"⟩
abbrev cX11_seek : ByteArray := prog_1_method_12_code
def yX11_seek : MethodName := ⟨RX11, "seek", "(II)I"⟩
abbrev cX11_sought : ByteArray := prog_1_method_13_code
def yX11_sought : MethodName := ⟨RX11, "sought", "(I)I"⟩
abbrev cX11_pair : ByteArray := prog_1_method_14_code
def yX11_pair : MethodName := ⟨RX11, "pair", "(I)J"⟩
abbrev cX11_ends : ByteArray := prog_1_method_15_code
def yX11_ends : MethodName := ⟨RX11, "ends", "(JJ)I"⟩
abbrev cX11_row : ByteArray := prog_1_method_16_code
def yX11_row : MethodName := ⟨RX11, "row", "(JI)I"⟩
abbrev cX11_end : ByteArray := prog_1_method_17_code
def yX11_end : MethodName := ⟨RX11, "end", "(I)I"⟩
abbrev cX11_group : ByteArray := prog_1_method_18_code
def yX11_group : MethodName := ⟨RX11, "group", "(III)I"⟩
abbrev cX11_gap : ByteArray := prog_1_method_19_code
def yX11_gap : MethodName := ⟨RX11, "gap", "(IIII)I"⟩
abbrev cX11_odds : ByteArray := prog_1_method_20_code
def yX11_odds : MethodName := ⟨RX11, "odds", "(IIII)I"⟩
abbrev cX11_where : ByteArray := prog_1_method_21_code
def yX11_where : MethodName := ⟨RX11, "where", "(I)I"⟩
abbrev cX11_askings : ByteArray := prog_1_method_22_code
def yX11_askings : MethodName := ⟨RX11, "askings", "(IIIIII)I"⟩
abbrev cX11_mend : ByteArray := prog_1_method_23_code
def yX11_mend : MethodName := ⟨RX11, "mend", "(IIII)I"⟩
abbrev cX11_refused : ByteArray := prog_1_method_24_code
def yX11_refused : MethodName := ⟨RX11, "refused", "(II)I"⟩
abbrev cX11_sameFor : ByteArray := prog_1_method_25_code
def yX11_sameFor : MethodName := ⟨RX11, "sameFor", "(III)I"⟩
abbrev cX11_count : ByteArray := prog_1_method_26_code
def yX11_count : MethodName := ⟨RX11, "count", "(I)I"⟩
abbrev cX11_digest : ByteArray := prog_1_method_27_code
def yX11_digest : MethodName := ⟨RX11, "digest", "()J"⟩
abbrev cX11_hasProgram : ByteArray := prog_1_method_28_code
def yX11_hasProgram : MethodName := ⟨RX11, "hasProgram", "()Z"⟩
abbrev cX11_isRow : ByteArray := prog_1_method_29_code
def yX11_isRow : MethodName := ⟨RX11, "isRow", "(I)Z"⟩
abbrev cX11_wasRefused : ByteArray := prog_1_method_30_code
def yX11_wasRefused : MethodName := ⟨RX11, "wasRefused", "(I)Z"⟩
abbrev cX11_ranGuest : ByteArray := prog_1_method_31_code
def yX11_ranGuest : MethodName := ⟨RX11, "ranGuest", "(I)I"⟩
abbrev cX11_foldedGuest : ByteArray := prog_1_method_32_code
def yX11_foldedGuest : MethodName := ⟨RX11, "foldedGuest", "(J)J"⟩
abbrev cX11_refusalOfGroups : ByteArray := prog_1_method_33_code
def yX11_refusalOfGroups : MethodName := ⟨RX11, "refusalOfGroups", "(IIIII)I"⟩
abbrev cX11_isField : ByteArray := prog_1_method_34_code
def yX11_isField : MethodName := ⟨RX11, "isField", "(I)Z"⟩
abbrev cX11_isShortCount : ByteArray := prog_1_method_35_code
def yX11_isShortCount : MethodName := ⟨RX11, "isShortCount", "(I)Z"⟩
abbrev cX11_isDigit : ByteArray := prog_1_method_36_code
def yX11_isDigit : MethodName := ⟨RX11, "isDigit", "(I)Z"⟩
abbrev cX11_isFieldLetter : ByteArray := prog_1_method_37_code
def yX11_isFieldLetter : MethodName := ⟨RX11, "isFieldLetter", "(I)Z"⟩
abbrev cX11_isComparison : ByteArray := prog_1_method_38_code
def yX11_isComparison : MethodName := ⟨RX11, "isComparison", "(I)Z"⟩
abbrev cX11_bit : ByteArray := prog_1_method_39_code
def yX11_bit : MethodName := ⟨RX11, "bit", "(Z)I"⟩
abbrev cX11_fold : ByteArray := prog_1_method_40_code
def yX11_fold : MethodName := ⟨RX11, "fold", "(JJ)J"⟩
abbrev cX11_lowest : ByteArray := prog_1_method_41_code
def yX11_lowest : MethodName := ⟨RX11, "lowest", "(JJI)I"⟩
abbrev cX11_commonDivisor : ByteArray := prog_1_method_42_code
def yX11_commonDivisor : MethodName := ⟨RX11, "commonDivisor", "(JJ)J"⟩
abbrev cX11_choose : ByteArray := prog_1_method_43_code
def yX11_choose : MethodName := ⟨RX11, "choose", "(II)J"⟩
def RX12 : String := "AlikeUnlikeModel"
def TX12 : u_T := fun k => match k with
  | 0 => ("AlikeUnlikeModel", "kinds", "[I", true)
  | 1 => ("AlikeUnlikeModel", "least", "[I", true)
  | 2 => ("AlikeUnlikeModel", "greatest", "[I", true)
  | 3 => ("AlikeUnlikeModel", "prices", "[I", true)
  | 4 => ("AlikeUnlikeModel", "page", "[I", true)
  | 5 => ("AlikeUnlikeModel", "pageMany", "I", false)
  | 6 => ("AlikeUnlikeModel", "state", "I", false)
  | 7 => ("AlikeUnlikeModel", "depth", "I", false)
  | 8 => ("AlikeUnlikeModel", "isRight", "Z", false)
  | 9 => ("AlikeUnlikeModel", "unitMany", "I", false)
  | 10 => ("AlikeUnlikeModel", "isLineBegun", "Z", false)
  | 11 => ("AlikeUnlikeModel", "isLast", "Z", false)
  | 12 => ("AlikeUnlikeModel", "value", "I", false)
  | 13 => ("AlikeUnlikeModel", "readMarks", "[I", true)
  | 14 => ("AlikeUnlikeModel", "readNumbers", "[I", true)
  | 15 => ("AlikeUnlikeModel", "readMany", "I", false)
  | 16 => ("AlikeUnlikeModel", "readLines", "[I", true)
  | 17 => ("AlikeUnlikeModel", "readEnds", "[I", true)
  | 18 => ("AlikeUnlikeModel", "lineMany", "I", false)
  | 19 => ("AlikeUnlikeModel", "waits", "[I", true)
  | 20 => ("AlikeUnlikeModel", "waiting", "I", false)
  | 21 => ("AlikeUnlikeModel", "isProgram", "Z", false)
  | 22 => ("AlikeUnlikeModel", "marks", "[I", true)
  | 23 => ("AlikeUnlikeModel", "numbers", "[I", true)
  | 24 => ("AlikeUnlikeModel", "markMany", "I", false)
  | 25 => ("AlikeUnlikeModel", "lineTo", "[I", true)
  | 26 => ("AlikeUnlikeModel", "lineEnd", "[I", true)
  | 27 => ("AlikeUnlikeModel", "lines", "I", false)
  | 28 => ("AlikeUnlikeModel", "laws", "I", false)
  | 29 => ("AlikeUnlikeModel", "lawMany", "[I", true)
  | 30 => ("AlikeUnlikeModel", "lawMarks", "[I", true)
  | 31 => ("AlikeUnlikeModel", "lawNumbers", "[I", true)
  | 32 => ("AlikeUnlikeModel", "sums", "[J", true)
  | 33 => ("AlikeUnlikeModel", "isGone", "[Z", true)
  | 34 => ("AlikeUnlikeModel", "truths", "[I", true)
  | 35 => ("AlikeUnlikeModel", "who", "[I", true)
  | 36 => ("AlikeUnlikeModel", "endedBy", "I", false)
  | 37 => ("AlikeUnlikeModel", "oneLaw", "[I", true)
  | 38 => ("AlikeUnlikeModel", "oneNumbers", "[I", true)
  | 39 => ("AlikeUnlikeModel", "box", "[I", true)
  | 40 => ("AlikeUnlikeModel", "stack", "[I", true)
  | 41 => ("AlikeUnlikeModel", "stacked", "I", false)
  | 42 => ("AlikeUnlikeModel", "isOne", "[Z", true)
  | 43 => ("AlikeUnlikeModel", "lows", "[J", true)
  | 44 => ("AlikeUnlikeModel", "highs", "[J", true)
  | 45 => ("AlikeUnlikeModel", "seeks", "I", false)
  | 46 => ("AlikeUnlikeModel", "looked", "I", false)
  | 47 => ("AlikeUnlikeModel", "cuts", "I", false)
  | 48 => ("AlikeUnlikeModel", "dones", "I", false)
  | 49 => ("AlikeUnlikeModel", "isPair", "Z", false)
  | 50 => ("AlikeUnlikeModel", "pairOne", "J", false)
  | 51 => ("AlikeUnlikeModel", "pairTwo", "J", false)
  | 52 => ("AlikeUnlikeModel", "rows", "I", false)
  | 53 => ("AlikeUnlikeModel", "rowWho", "[I", true)
  | 54 => ("AlikeUnlikeModel", "rowOut", "[I", true)
  | 55 => ("AlikeUnlikeModel", "rowEnd", "[I", true)
  | 56 => ("AlikeUnlikeModel", "inMany", "I", false)
  | 57 => ("AlikeUnlikeModel", "inLet", "I", false)
  | 58 => ("AlikeUnlikeModel", "oneMany", "I", false)
  | 59 => ("AlikeUnlikeModel", "oneLet", "I", false)
  | 60 => ("AlikeUnlikeModel", "twoMany", "I", false)
  | 61 => ("AlikeUnlikeModel", "twoLet", "I", false)
  | 62 => ("AlikeUnlikeModel", "whereField", "I", false)
  | 63 => ("AlikeUnlikeModel", "whereLeast", "I", false)
  | 64 => ("AlikeUnlikeModel", "whereGreatest", "I", false)
  | 65 => ("AlikeUnlikeModel", "whereUp", "I", false)
  | 66 => ("AlikeUnlikeModel", "whereLow", "I", false)
  | 67 => ("AlikeUnlikeModel", "paid", "I", false)
  | 68 => ("AlikeUnlikeModel", "mends", "I", false)
  | 69 => ("AlikeUnlikeModel", "asWas", "[I", true)
  | 70 => ("AlikeUnlikeModel", "bestWho", "[I", true)
  | _ => ("AlikeUnlikeModel", "hash", "J", false)
def tyX12 : Nat → FieldType := fun k => match k with
  | 0 => .array .int
  | 1 => .array .int
  | 2 => .array .int
  | 3 => .array .int
  | 4 => .array .int
  | 5 => .int
  | 6 => .int
  | 7 => .int
  | 8 => .boolean
  | 9 => .int
  | 10 => .boolean
  | 11 => .boolean
  | 12 => .int
  | 13 => .array .int
  | 14 => .array .int
  | 15 => .int
  | 16 => .array .int
  | 17 => .array .int
  | 18 => .int
  | 19 => .array .int
  | 20 => .int
  | 21 => .boolean
  | 22 => .array .int
  | 23 => .array .int
  | 24 => .int
  | 25 => .array .int
  | 26 => .array .int
  | 27 => .int
  | 28 => .int
  | 29 => .array .int
  | 30 => .array .int
  | 31 => .array .int
  | 32 => .array .long
  | 33 => .array .boolean
  | 34 => .array .int
  | 35 => .array .int
  | 36 => .int
  | 37 => .array .int
  | 38 => .array .int
  | 39 => .array .int
  | 40 => .array .int
  | 41 => .int
  | 42 => .array .boolean
  | 43 => .array .long
  | 44 => .array .long
  | 45 => .int
  | 46 => .int
  | 47 => .int
  | 48 => .int
  | 49 => .boolean
  | 50 => .long
  | 51 => .long
  | 52 => .int
  | 53 => .array .int
  | 54 => .array .int
  | 55 => .array .int
  | 56 => .int
  | 57 => .int
  | 58 => .int
  | 59 => .int
  | 60 => .int
  | 61 => .int
  | 62 => .int
  | 63 => .int
  | 64 => .int
  | 65 => .int
  | 66 => .int
  | 67 => .int
  | 68 => .int
  | 69 => .array .int
  | 70 => .array .int
  | _ => .long
theorem nmX12 : ∀ a, a < 72 → ∀ b, b < 72 → a ≠ b → (TX12 a).2.1 ≠ (TX12 b).2.1 := by decide +kernel
theorem tyX12_ok : ∀ k, k < 72 → parseFieldDescriptor (TX12 k).2.2.1 = some (tyX12 k) := by decide +kernel
abbrev cX12_init : ByteArray := prog_14_method_1_code
def yX12_init : MethodName := ⟨RX12, "<init>", "()V"⟩
abbrev cX12_in : ByteArray := prog_14_method_2_code
def yX12_in : MethodName := ⟨RX12, "in", "(JJJ)Z"⟩
abbrev cX12_isField : ByteArray := prog_14_method_3_code
def yX12_isField : MethodName := ⟨RX12, "isField", "(I)Z"⟩
abbrev cX12_told : ByteArray := prog_14_method_4_code
def yX12_told : MethodName := ⟨RX12, "told", "(II)I"⟩
abbrev cX12_mayMany : ByteArray := prog_14_method_5_code
def yX12_mayMany : MethodName := ⟨RX12, "mayMany", "()I"⟩
abbrev cX12_field : ByteArray := prog_14_method_6_code
def yX12_field : MethodName := ⟨RX12, "field", "(III)I"⟩
abbrev cX12_as : ByteArray := prog_14_method_7_code
def yX12_as : MethodName := ⟨RX12, "as", "(II)I"⟩
abbrev cX12_counts : ByteArray := prog_14_method_8_code
def yX12_counts : MethodName := ⟨RX12, "counts", "(I)Z"⟩
abbrev cX12_asks : ByteArray := prog_14_method_9_code
def yX12_asks : MethodName := ⟨RX12, "asks", "(II)I"⟩
abbrev cX12_letters : ByteArray := prog_14_method_10_code
def yX12_letters : MethodName := ⟨RX12, "letters", "(J)I"⟩
abbrev cX12_blank : ByteArray := prog_14_method_11_code
def yX12_blank : MethodName := ⟨RX12, "blank", "()I"⟩
abbrev cX12_lay : ByteArray := prog_14_method_12_code
def yX12_lay : MethodName := ⟨RX12, "lay", "(II)V"⟩
abbrev cX12_layDown : ByteArray := prog_14_method_13_code
def yX12_layDown : MethodName := ⟨RX12, "layDown", "(I)V"⟩
abbrev cX12_await : ByteArray := prog_14_method_14_code
def yX12_await : MethodName := ⟨RX12, "await", "(II)V"⟩
abbrev cX12_takeUnit : ByteArray := prog_14_method_15_code
def yX12_takeUnit : MethodName := ⟨RX12, "takeUnit", "(I)Z"⟩
abbrev cX12_goFactor : ByteArray := prog_14_method_16_code
def yX12_goFactor : MethodName := ⟨RX12, "goFactor", "(II)Z"⟩
abbrev cX12_goOn : ByteArray := prog_14_method_17_code
def yX12_goOn : MethodName := ⟨RX12, "goOn", "(II)Z"⟩
abbrev cX12_goBehind : ByteArray := prog_14_method_18_code
def yX12_goBehind : MethodName := ⟨RX12, "goBehind", "(II)Z"⟩
abbrev cX12_go : ByteArray := prog_14_method_19_code
def yX12_go : MethodName := ⟨RX12, "go", "(II)Z"⟩
abbrev cX12_faultOf : ByteArray := prog_14_method_20_code
def yX12_faultOf : MethodName := ⟨RX12, "faultOf", "(I)I"⟩
abbrev cX12_fault : ByteArray := prog_14_method_21_code
def yX12_fault : MethodName := ⟨RX12, "fault", "(I)I"⟩
abbrev cX12_program : ByteArray := prog_14_method_22_code
def yX12_program : MethodName := ⟨RX12, "program", "()I"⟩
abbrev cX12_law : ByteArray := prog_14_method_23_code
def yX12_law : MethodName := ⟨RX12, "law", "()I"⟩
abbrev cX12_strike : ByteArray := prog_14_method_24_code
def yX12_strike : MethodName := ⟨RX12, "strike", "()I"⟩
abbrev cX12_joined : ByteArray := prog_14_method_25_code
def yX12_joined : MethodName := ⟨RX12, "joined", "(III)I"⟩
abbrev cX12_compared : ByteArray := prog_14_method_26_code
def yX12_compared : MethodName := ⟨RX12, "compared", "(IJJ)I"⟩
abbrev cX12_holds : ByteArray := prog_14_method_27_code
def yX12_holds : MethodName := ⟨RX12, "holds", "([I[III)I"⟩
abbrev cX12_runWho : ByteArray := prog_14_method_28_code
def yX12_runWho : MethodName := ⟨RX12, "runWho", "()I"⟩
abbrev cX12_takeLaw : ByteArray := prog_14_method_29_code
def yX12_takeLaw : MethodName := ⟨RX12, "takeLaw", "(I)V"⟩
abbrev cX12_couldCome : ByteArray := prog_14_method_30_code
def yX12_couldCome : MethodName := ⟨RX12, "couldCome", "()Z"⟩
abbrev cX12_takePerson : ByteArray := prog_14_method_31_code
def yX12_takePerson : MethodName := ⟨RX12, "takePerson", "(J)Z"⟩
abbrev cX12_toldOf : ByteArray := prog_14_method_32_code
def yX12_toldOf : MethodName := ⟨RX12, "toldOf", "(I)I"⟩
abbrev cX12_run : ByteArray := prog_14_method_33_code
def yX12_run : MethodName := ⟨RX12, "run", "(JI)I"⟩
abbrev cX12_spanned : ByteArray := prog_14_method_34_code
def yX12_spanned : MethodName := ⟨RX12, "spanned", "(IJJJJ)I"⟩
abbrev cX12_both : ByteArray := prog_14_method_35_code
def yX12_both : MethodName := ⟨RX12, "both", "(III)I"⟩
abbrev cX12_multiply : ByteArray := prog_14_method_36_code
def yX12_multiply : MethodName := ⟨RX12, "multiply", "(I)V"⟩
abbrev cX12_onBox : ByteArray := prog_14_method_37_code
def yX12_onBox : MethodName := ⟨RX12, "onBox", "([I[IIII)I"⟩
abbrev cX12_endsOf : ByteArray := prog_14_method_38_code
def yX12_endsOf : MethodName := ⟨RX12, "endsOf", "(I)I"⟩
abbrev cX12_isDone : ByteArray := prog_14_method_39_code
def yX12_isDone : MethodName := ⟨RX12, "isDone", "(I)Z"⟩
abbrev cX12_widest : ByteArray := prog_14_method_40_code
def yX12_widest : MethodName := ⟨RX12, "widest", "()I"⟩
abbrev cX12_push : ByteArray := prog_14_method_41_code
def yX12_push : MethodName := ⟨RX12, "push", "(III)V"⟩
abbrev cX12_boxPerson : ByteArray := prog_14_method_42_code
def yX12_boxPerson : MethodName := ⟨RX12, "boxPerson", "(I)J"⟩
abbrev cX12_search : ByteArray := prog_14_method_43_code
def yX12_search : MethodName := ⟨RX12, "search", "(II)I"⟩
abbrev cX12_seek : ByteArray := prog_14_method_44_code
def yX12_seek : MethodName := ⟨RX12, "seek", "(II)I"⟩
abbrev cX12_sought : ByteArray := prog_14_method_45_code
def yX12_sought : MethodName := ⟨RX12, "sought", "(I)I"⟩
abbrev cX12_pair : ByteArray := prog_14_method_46_code
def yX12_pair : MethodName := ⟨RX12, "pair", "(I)J"⟩
abbrev cX12_ends : ByteArray := prog_14_method_47_code
def yX12_ends : MethodName := ⟨RX12, "ends", "(JJ)I"⟩
abbrev cX12_row : ByteArray := prog_14_method_48_code
def yX12_row : MethodName := ⟨RX12, "row", "(JI)I"⟩
abbrev cX12_takeRow : ByteArray := prog_14_method_49_code
def yX12_takeRow : MethodName := ⟨RX12, "takeRow", "(I)V"⟩
abbrev cX12_runAll : ByteArray := prog_14_method_50_code
def yX12_runAll : MethodName := ⟨RX12, "runAll", "()V"⟩
abbrev cX12_isRow : ByteArray := prog_14_method_51_code
def yX12_isRow : MethodName := ⟨RX12, "isRow", "(I)Z"⟩
abbrev cX12_endOf : ByteArray := prog_14_method_52_code
def yX12_endOf : MethodName := ⟨RX12, "endOf", "(I)I"⟩
abbrev cX12_end : ByteArray := prog_14_method_53_code
def yX12_end : MethodName := ⟨RX12, "end", "(I)I"⟩
abbrev cX12_countGroup : ByteArray := prog_14_method_54_code
def yX12_countGroup : MethodName := ⟨RX12, "countGroup", "(IIIZ)V"⟩
abbrev cX12_isNumber : ByteArray := prog_14_method_55_code
def yX12_isNumber : MethodName := ⟨RX12, "isNumber", "(I)Z"⟩
abbrev cX12_groupOf : ByteArray := prog_14_method_56_code
def yX12_groupOf : MethodName := ⟨RX12, "groupOf", "(III)I"⟩
abbrev cX12_group : ByteArray := prog_14_method_57_code
def yX12_group : MethodName := ⟨RX12, "group", "(III)I"⟩
abbrev cX12_common : ByteArray := prog_14_method_58_code
def yX12_common : MethodName := ⟨RX12, "common", "(JJ)J"⟩
abbrev cX12_takeGroups : ByteArray := prog_14_method_59_code
def yX12_takeGroups : MethodName := ⟨RX12, "takeGroups", "(III)V"⟩
abbrev cX12_gapOf : ByteArray := prog_14_method_60_code
def yX12_gapOf : MethodName := ⟨RX12, "gapOf", "(IIII)I"⟩
abbrev cX12_gapRefusal : ByteArray := prog_14_method_61_code
def yX12_gapRefusal : MethodName := ⟨RX12, "gapRefusal", "(IIIZ)I"⟩
abbrev cX12_part : ByteArray := prog_14_method_62_code
def yX12_part : MethodName := ⟨RX12, "part", "(JJI)I"⟩
abbrev cX12_gap : ByteArray := prog_14_method_63_code
def yX12_gap : MethodName := ⟨RX12, "gap", "(IIII)I"⟩
abbrev cX12_choose : ByteArray := prog_14_method_64_code
def yX12_choose : MethodName := ⟨RX12, "choose", "(II)J"⟩
abbrev cX12_odds : ByteArray := prog_14_method_65_code
def yX12_odds : MethodName := ⟨RX12, "odds", "(IIII)I"⟩
abbrev cX12_findWhere : ByteArray := prog_14_method_66_code
def yX12_findWhere : MethodName := ⟨RX12, "findWhere", "()V"⟩
abbrev cX12_whereOf : ByteArray := prog_14_method_67_code
def yX12_whereOf : MethodName := ⟨RX12, "whereOf", "(I)I"⟩
abbrev cX12_where : ByteArray := prog_14_method_68_code
def yX12_where : MethodName := ⟨RX12, "where", "(I)I"⟩
abbrev cX12_asked : ByteArray := prog_14_method_69_code
def yX12_asked : MethodName := ⟨RX12, "asked", "(II)Z"⟩
abbrev cX12_mostLet : ByteArray := prog_14_method_70_code
def yX12_mostLet : MethodName := ⟨RX12, "mostLet", "(IIIII)I"⟩
abbrev cX12_askings : ByteArray := prog_14_method_71_code
def yX12_askings : MethodName := ⟨RX12, "askings", "(IIIIII)I"⟩
abbrev cX12_numberMany : ByteArray := prog_14_method_72_code
def yX12_numberMany : MethodName := ⟨RX12, "numberMany", "()I"⟩
abbrev cX12_numberAt : ByteArray := prog_14_method_73_code
def yX12_numberAt : MethodName := ⟨RX12, "numberAt", "(I)I"⟩
abbrev cX12_isNought : ByteArray := prog_14_method_74_code
def yX12_isNought : MethodName := ⟨RX12, "isNought", "(III)Z"⟩
abbrev cX12_mend : ByteArray := prog_14_method_75_code
def yX12_mend : MethodName := ⟨RX12, "mend", "(IIII)I"⟩
abbrev cX12_price : ByteArray := prog_14_method_76_code
def yX12_price : MethodName := ⟨RX12, "price", "(II)I"⟩
abbrev cX12_leastPrice : ByteArray := prog_14_method_77_code
def yX12_leastPrice : MethodName := ⟨RX12, "leastPrice", "()I"⟩
abbrev cX12_mayAt : ByteArray := prog_14_method_78_code
def yX12_mayAt : MethodName := ⟨RX12, "mayAt", "(I)I"⟩
abbrev cX12_isRefused : ByteArray := prog_14_method_79_code
def yX12_isRefused : MethodName := ⟨RX12, "isRefused", "(I)Z"⟩
abbrev cX12_refused : ByteArray := prog_14_method_80_code
def yX12_refused : MethodName := ⟨RX12, "refused", "(II)I"⟩
abbrev cX12_sameFor : ByteArray := prog_14_method_81_code
def yX12_sameFor : MethodName := ⟨RX12, "sameFor", "(III)I"⟩
abbrev cX12_countOf : ByteArray := prog_14_method_82_code
def yX12_countOf : MethodName := ⟨RX12, "countOf", "(I)I"⟩
abbrev cX12_count : ByteArray := prog_14_method_83_code
def yX12_count : MethodName := ⟨RX12, "count", "(I)I"⟩
abbrev cX12_tell : ByteArray := prog_14_method_84_code
def yX12_tell : MethodName := ⟨RX12, "tell", "(J)V"⟩
abbrev cX12_tellWho : ByteArray := prog_14_method_85_code
def yX12_tellWho : MethodName := ⟨RX12, "tellWho", "()V"⟩
abbrev cX12_digest : ByteArray := prog_14_method_86_code
def yX12_digest : MethodName := ⟨RX12, "digest", "()J"⟩
def RJ6 : String := "java/lang/Integer"
abbrev cJ6_bitCount_0f7a4 : ByteArray := prog_15_method_49_code
def yJ6_bitCount_0f7a4 : MethodName := ⟨RJ6, "bitCount", "(I)I"⟩
def RJ9 : String := "java/lang/Math"
abbrev cJ9_abs_0f7a4 : ByteArray := prog_16_method_59_code
def yJ9_abs_0f7a4 : MethodName := ⟨RJ9, "abs", "(I)I"⟩
abbrev cJ9_max_7cf53 : ByteArray := prog_16_method_65_code
def yJ9_max_7cf53 : MethodName := ⟨RJ9, "max", "(II)I"⟩
abbrev cJ9_max_f86c9 : ByteArray := prog_16_method_66_code
def yJ9_max_f86c9 : MethodName := ⟨RJ9, "max", "(JJ)J"⟩
abbrev cJ9_min_f86c9 : ByteArray := prog_16_method_70_code
def yJ9_min_f86c9 : MethodName := ⟨RJ9, "min", "(JJ)J"⟩
def RJ10 : String := "java/lang/System"
def RL : String := "AlikeUnlikeLaw"
abbrev cL_law : ByteArray := code
def yL_law : MethodName := ⟨RL, "law", "([I)Z"⟩
abbrev cls : List vw_C := [(RX0, TX0, 6), (RX1, TX1, 14), (RX2, TX2, 3), (RX3, TX3, 3), (RX4, TX4, 6), (RX5, TX5, 9), (RX6, TX6, 1), (RX7, TX7, 8), (RX8, TX8, 9), (RX9, TX9, 3), (RX10, TX10, 4), (RX11, TX11, 15), (RX12, TX12, 72)]
def TW : List Cond := lw_tbl.filter goodWord
theorem TW_of {w : Cond} (h : w ∈ lw_tbl) (g : goodWord w = true) : w ∈ TW := List.mem_filter.mpr ⟨h, g⟩
theorem tb_of {w : Cond} (h : w ∈ tables_1) : w ∈ lw_tbl := List.mem_append_right _ h
theorem wt1 {w : Cond} (i : Nat) (hi : tables_1_1[i]? = some w) (g : goodWord w = true) : w ∈ TW := TW_of (tb_of (have h := List.mem_of_getElem? hi; (List.mem_append_left _ h))) g
theorem wu1 {w : Cond} (i : Nat) (hi : tables_1_1[i]? = some w) : w ∈ lw_tbl := tb_of (have h := List.mem_of_getElem? hi; (List.mem_append_left _ h))
theorem wt2 {w : Cond} (i : Nat) (hi : tables_1_2[i]? = some w) (g : goodWord w = true) : w ∈ TW := TW_of (tb_of (have h := List.mem_of_getElem? hi; (List.mem_append_right _ (List.mem_append_left _ h)))) g
theorem wu2 {w : Cond} (i : Nat) (hi : tables_1_2[i]? = some w) : w ∈ lw_tbl := tb_of (have h := List.mem_of_getElem? hi; (List.mem_append_right _ (List.mem_append_left _ h)))
theorem wt3 {w : Cond} (i : Nat) (hi : tables_1_3[i]? = some w) (g : goodWord w = true) : w ∈ TW := TW_of (tb_of (have h := List.mem_of_getElem? hi; (List.mem_append_right _ (List.mem_append_right _ (List.mem_append_left _ h))))) g
theorem wu3 {w : Cond} (i : Nat) (hi : tables_1_3[i]? = some w) : w ∈ lw_tbl := tb_of (have h := List.mem_of_getElem? hi; (List.mem_append_right _ (List.mem_append_right _ (List.mem_append_left _ h))))
theorem wt4 {w : Cond} (i : Nat) (hi : tables_1_4[i]? = some w) (g : goodWord w = true) : w ∈ TW := TW_of (tb_of (have h := List.mem_of_getElem? hi; (List.mem_append_right _ (List.mem_append_right _ (List.mem_append_right _ (List.mem_append_left _ h)))))) g
theorem wu4 {w : Cond} (i : Nat) (hi : tables_1_4[i]? = some w) : w ∈ lw_tbl := tb_of (have h := List.mem_of_getElem? hi; (List.mem_append_right _ (List.mem_append_right _ (List.mem_append_right _ (List.mem_append_left _ h)))))
theorem wt5 {w : Cond} (i : Nat) (hi : tables_1_5[i]? = some w) (g : goodWord w = true) : w ∈ TW := TW_of (tb_of (have h := List.mem_of_getElem? hi; (List.mem_append_right _ (List.mem_append_right _ (List.mem_append_right _ (List.mem_append_right _ (List.mem_append_left _ h))))))) g
theorem wu5 {w : Cond} (i : Nat) (hi : tables_1_5[i]? = some w) : w ∈ lw_tbl := tb_of (have h := List.mem_of_getElem? hi; (List.mem_append_right _ (List.mem_append_right _ (List.mem_append_right _ (List.mem_append_right _ (List.mem_append_left _ h))))))
theorem wt6 {w : Cond} (i : Nat) (hi : tables_1_6[i]? = some w) (g : goodWord w = true) : w ∈ TW := TW_of (tb_of (have h := List.mem_of_getElem? hi; (List.mem_append_right _ (List.mem_append_right _ (List.mem_append_right _ (List.mem_append_right _ (List.mem_append_right _ (List.mem_append_left _ h)))))))) g
theorem wu6 {w : Cond} (i : Nat) (hi : tables_1_6[i]? = some w) : w ∈ lw_tbl := tb_of (have h := List.mem_of_getElem? hi; (List.mem_append_right _ (List.mem_append_right _ (List.mem_append_right _ (List.mem_append_right _ (List.mem_append_right _ (List.mem_append_left _ h)))))))
theorem wt7 {w : Cond} (i : Nat) (hi : tables_1_7[i]? = some w) (g : goodWord w = true) : w ∈ TW := TW_of (tb_of (have h := List.mem_of_getElem? hi; (List.mem_append_right _ (List.mem_append_right _ (List.mem_append_right _ (List.mem_append_right _ (List.mem_append_right _ (List.mem_append_right _ h)))))))) g
theorem wu7 {w : Cond} (i : Nat) (hi : tables_1_7[i]? = some w) : w ∈ lw_tbl := tb_of (have h := List.mem_of_getElem? hi; (List.mem_append_right _ (List.mem_append_right _ (List.mem_append_right _ (List.mem_append_right _ (List.mem_append_right _ (List.mem_append_right _ h)))))))
theorem goodIn_TW {ws : List Cond} (h : ∀ w ∈ ws, w ∈ TW) : GoodIn TW ws := fun w hw => ⟨h w hw, good_of_word (List.mem_filter.mp (h w hw)).2⟩
theorem TW_lw : ∀ w ∈ TW, w ∈ lw_tbl := fun w h => (List.mem_filter.mp h).1
theorem lyX0_0 : u_lay RX0 TX0 0 ∈ TW := wt2 57 (by decide +kernel) (by decide +kernel)
theorem lyX0_1 : u_lay RX0 TX0 1 ∈ TW := wt2 59 (by decide +kernel) (by decide +kernel)
theorem lyX0_2 : u_lay RX0 TX0 2 ∈ TW := wt2 61 (by decide +kernel) (by decide +kernel)
theorem lyX0_3 : u_lay RX0 TX0 3 ∈ TW := wt2 63 (by decide +kernel) (by decide +kernel)
theorem lyX0_4 : u_lay RX0 TX0 4 ∈ TW := wt2 65 (by decide +kernel) (by decide +kernel)
theorem lyX0_5 : u_lay RX0 TX0 5 ∈ TW := wt2 67 (by decide +kernel) (by decide +kernel)
theorem inX0 : ∀ w ∈ u_ws RX0 TX0 6, w ∈ TW := by
  intro w hw
  obtain ⟨j, hj, rfl⟩ := List.mem_map.mp hw
  have hj := List.mem_range.mp hj
  match j, hj with
  | 0, _ => exact lyX0_0
  | 1, _ => exact lyX0_1
  | 2, _ => exact lyX0_2
  | 3, _ => exact lyX0_3
  | 4, _ => exact lyX0_4
  | 5, _ => exact lyX0_5
  | n + 6, h => exact absurd h (by omega)
theorem lyX1_0 : u_lay RX1 TX1 0 ∈ TW := wt1 213 (by decide +kernel) (by decide +kernel)
theorem lyX1_1 : u_lay RX1 TX1 1 ∈ TW := wt1 215 (by decide +kernel) (by decide +kernel)
theorem lyX1_2 : u_lay RX1 TX1 2 ∈ TW := wt1 217 (by decide +kernel) (by decide +kernel)
theorem lyX1_3 : u_lay RX1 TX1 3 ∈ TW := wt1 219 (by decide +kernel) (by decide +kernel)
theorem lyX1_4 : u_lay RX1 TX1 4 ∈ TW := wt1 221 (by decide +kernel) (by decide +kernel)
theorem lyX1_5 : u_lay RX1 TX1 5 ∈ TW := wt1 223 (by decide +kernel) (by decide +kernel)
theorem lyX1_6 : u_lay RX1 TX1 6 ∈ TW := wt1 225 (by decide +kernel) (by decide +kernel)
theorem lyX1_7 : u_lay RX1 TX1 7 ∈ TW := wt1 227 (by decide +kernel) (by decide +kernel)
theorem lyX1_8 : u_lay RX1 TX1 8 ∈ TW := wt1 229 (by decide +kernel) (by decide +kernel)
theorem lyX1_9 : u_lay RX1 TX1 9 ∈ TW := wt1 231 (by decide +kernel) (by decide +kernel)
theorem lyX1_10 : u_lay RX1 TX1 10 ∈ TW := wt1 233 (by decide +kernel) (by decide +kernel)
theorem lyX1_11 : u_lay RX1 TX1 11 ∈ TW := wt1 235 (by decide +kernel) (by decide +kernel)
theorem lyX1_12 : u_lay RX1 TX1 12 ∈ TW := wt1 237 (by decide +kernel) (by decide +kernel)
theorem lyX1_13 : u_lay RX1 TX1 13 ∈ TW := wt1 239 (by decide +kernel) (by decide +kernel)
theorem inX1 : ∀ w ∈ u_ws RX1 TX1 14, w ∈ TW := by
  intro w hw
  obtain ⟨j, hj, rfl⟩ := List.mem_map.mp hw
  have hj := List.mem_range.mp hj
  match j, hj with
  | 0, _ => exact lyX1_0
  | 1, _ => exact lyX1_1
  | 2, _ => exact lyX1_2
  | 3, _ => exact lyX1_3
  | 4, _ => exact lyX1_4
  | 5, _ => exact lyX1_5
  | 6, _ => exact lyX1_6
  | 7, _ => exact lyX1_7
  | 8, _ => exact lyX1_8
  | 9, _ => exact lyX1_9
  | 10, _ => exact lyX1_10
  | 11, _ => exact lyX1_11
  | 12, _ => exact lyX1_12
  | 13, _ => exact lyX1_13
  | n + 14, h => exact absurd h (by omega)
theorem lyX2_0 : u_lay RX2 TX2 0 ∈ TW := wt2 38 (by decide +kernel) (by decide +kernel)
theorem lyX2_1 : u_lay RX2 TX2 1 ∈ TW := wt2 40 (by decide +kernel) (by decide +kernel)
theorem lyX2_2 : u_lay RX2 TX2 2 ∈ TW := wt2 42 (by decide +kernel) (by decide +kernel)
theorem inX2 : ∀ w ∈ u_ws RX2 TX2 3, w ∈ TW := by
  intro w hw
  obtain ⟨j, hj, rfl⟩ := List.mem_map.mp hw
  have hj := List.mem_range.mp hj
  match j, hj with
  | 0, _ => exact lyX2_0
  | 1, _ => exact lyX2_1
  | 2, _ => exact lyX2_2
  | n + 3, h => exact absurd h (by omega)
theorem lyX3_0 : u_lay RX3 TX3 0 ∈ TW := wt1 67 (by decide +kernel) (by decide +kernel)
theorem lyX3_1 : u_lay RX3 TX3 1 ∈ TW := wt1 69 (by decide +kernel) (by decide +kernel)
theorem lyX3_2 : u_lay RX3 TX3 2 ∈ TW := wt1 71 (by decide +kernel) (by decide +kernel)
theorem inX3 : ∀ w ∈ u_ws RX3 TX3 3, w ∈ TW := by
  intro w hw
  obtain ⟨j, hj, rfl⟩ := List.mem_map.mp hw
  have hj := List.mem_range.mp hj
  match j, hj with
  | 0, _ => exact lyX3_0
  | 1, _ => exact lyX3_1
  | 2, _ => exact lyX3_2
  | n + 3, h => exact absurd h (by omega)
theorem lyX4_0 : u_lay RX4 TX4 0 ∈ TW := wt2 14 (by decide +kernel) (by decide +kernel)
theorem lyX4_1 : u_lay RX4 TX4 1 ∈ TW := wt2 16 (by decide +kernel) (by decide +kernel)
theorem lyX4_2 : u_lay RX4 TX4 2 ∈ TW := wt2 18 (by decide +kernel) (by decide +kernel)
theorem lyX4_3 : u_lay RX4 TX4 3 ∈ TW := wt2 20 (by decide +kernel) (by decide +kernel)
theorem lyX4_4 : u_lay RX4 TX4 4 ∈ TW := wt2 22 (by decide +kernel) (by decide +kernel)
theorem lyX4_5 : u_lay RX4 TX4 5 ∈ TW := wt2 24 (by decide +kernel) (by decide +kernel)
theorem inX4 : ∀ w ∈ u_ws RX4 TX4 6, w ∈ TW := by
  intro w hw
  obtain ⟨j, hj, rfl⟩ := List.mem_map.mp hw
  have hj := List.mem_range.mp hj
  match j, hj with
  | 0, _ => exact lyX4_0
  | 1, _ => exact lyX4_1
  | 2, _ => exact lyX4_2
  | 3, _ => exact lyX4_3
  | 4, _ => exact lyX4_4
  | 5, _ => exact lyX4_5
  | n + 6, h => exact absurd h (by omega)
theorem lyX5_0 : u_lay RX5 TX5 0 ∈ TW := wt1 89 (by decide +kernel) (by decide +kernel)
theorem lyX5_1 : u_lay RX5 TX5 1 ∈ TW := wt1 91 (by decide +kernel) (by decide +kernel)
theorem lyX5_2 : u_lay RX5 TX5 2 ∈ TW := wt1 93 (by decide +kernel) (by decide +kernel)
theorem lyX5_3 : u_lay RX5 TX5 3 ∈ TW := wt1 95 (by decide +kernel) (by decide +kernel)
theorem lyX5_4 : u_lay RX5 TX5 4 ∈ TW := wt1 97 (by decide +kernel) (by decide +kernel)
theorem lyX5_5 : u_lay RX5 TX5 5 ∈ TW := wt1 99 (by decide +kernel) (by decide +kernel)
theorem lyX5_6 : u_lay RX5 TX5 6 ∈ TW := wt1 101 (by decide +kernel) (by decide +kernel)
theorem lyX5_7 : u_lay RX5 TX5 7 ∈ TW := wt1 103 (by decide +kernel) (by decide +kernel)
theorem lyX5_8 : u_lay RX5 TX5 8 ∈ TW := wt1 105 (by decide +kernel) (by decide +kernel)
theorem inX5 : ∀ w ∈ u_ws RX5 TX5 9, w ∈ TW := by
  intro w hw
  obtain ⟨j, hj, rfl⟩ := List.mem_map.mp hw
  have hj := List.mem_range.mp hj
  match j, hj with
  | 0, _ => exact lyX5_0
  | 1, _ => exact lyX5_1
  | 2, _ => exact lyX5_2
  | 3, _ => exact lyX5_3
  | 4, _ => exact lyX5_4
  | 5, _ => exact lyX5_5
  | 6, _ => exact lyX5_6
  | 7, _ => exact lyX5_7
  | 8, _ => exact lyX5_8
  | n + 9, h => exact absurd h (by omega)
theorem lyX6_0 : u_lay RX6 TX6 0 ∈ TW := wt1 196 (by decide +kernel) (by decide +kernel)
theorem inX6 : ∀ w ∈ u_ws RX6 TX6 1, w ∈ TW := by
  intro w hw
  obtain ⟨j, hj, rfl⟩ := List.mem_map.mp hw
  have hj := List.mem_range.mp hj
  match j, hj with
  | 0, _ => exact lyX6_0
  | n + 1, h => exact absurd h (by omega)
theorem lyX7_0 : u_lay RX7 TX7 0 ∈ TW := wt1 46 (by decide +kernel) (by decide +kernel)
theorem lyX7_1 : u_lay RX7 TX7 1 ∈ TW := wt1 48 (by decide +kernel) (by decide +kernel)
theorem lyX7_2 : u_lay RX7 TX7 2 ∈ TW := wt1 50 (by decide +kernel) (by decide +kernel)
theorem lyX7_3 : u_lay RX7 TX7 3 ∈ TW := wt1 52 (by decide +kernel) (by decide +kernel)
theorem lyX7_4 : u_lay RX7 TX7 4 ∈ TW := wt1 54 (by decide +kernel) (by decide +kernel)
theorem lyX7_5 : u_lay RX7 TX7 5 ∈ TW := wt1 56 (by decide +kernel) (by decide +kernel)
theorem lyX7_6 : u_lay RX7 TX7 6 ∈ TW := wt1 58 (by decide +kernel) (by decide +kernel)
theorem lyX7_7 : u_lay RX7 TX7 7 ∈ TW := wt1 60 (by decide +kernel) (by decide +kernel)
theorem inX7 : ∀ w ∈ u_ws RX7 TX7 8, w ∈ TW := by
  intro w hw
  obtain ⟨j, hj, rfl⟩ := List.mem_map.mp hw
  have hj := List.mem_range.mp hj
  match j, hj with
  | 0, _ => exact lyX7_0
  | 1, _ => exact lyX7_1
  | 2, _ => exact lyX7_2
  | 3, _ => exact lyX7_3
  | 4, _ => exact lyX7_4
  | 5, _ => exact lyX7_5
  | 6, _ => exact lyX7_6
  | 7, _ => exact lyX7_7
  | n + 8, h => exact absurd h (by omega)
theorem lyX8_0 : u_lay RX8 TX8 0 ∈ TW := wt1 162 (by decide +kernel) (by decide +kernel)
theorem lyX8_1 : u_lay RX8 TX8 1 ∈ TW := wt1 164 (by decide +kernel) (by decide +kernel)
theorem lyX8_2 : u_lay RX8 TX8 2 ∈ TW := wt1 166 (by decide +kernel) (by decide +kernel)
theorem lyX8_3 : u_lay RX8 TX8 3 ∈ TW := wt1 168 (by decide +kernel) (by decide +kernel)
theorem lyX8_4 : u_lay RX8 TX8 4 ∈ TW := wt1 170 (by decide +kernel) (by decide +kernel)
theorem lyX8_5 : u_lay RX8 TX8 5 ∈ TW := wt1 172 (by decide +kernel) (by decide +kernel)
theorem lyX8_6 : u_lay RX8 TX8 6 ∈ TW := wt1 174 (by decide +kernel) (by decide +kernel)
theorem lyX8_7 : u_lay RX8 TX8 7 ∈ TW := wt1 176 (by decide +kernel) (by decide +kernel)
theorem lyX8_8 : u_lay RX8 TX8 8 ∈ TW := wt1 178 (by decide +kernel) (by decide +kernel)
theorem inX8 : ∀ w ∈ u_ws RX8 TX8 9, w ∈ TW := by
  intro w hw
  obtain ⟨j, hj, rfl⟩ := List.mem_map.mp hw
  have hj := List.mem_range.mp hj
  match j, hj with
  | 0, _ => exact lyX8_0
  | 1, _ => exact lyX8_1
  | 2, _ => exact lyX8_2
  | 3, _ => exact lyX8_3
  | 4, _ => exact lyX8_4
  | 5, _ => exact lyX8_5
  | 6, _ => exact lyX8_6
  | 7, _ => exact lyX8_7
  | 8, _ => exact lyX8_8
  | n + 9, h => exact absurd h (by omega)
theorem lyX9_0 : u_lay RX9 TX9 0 ∈ TW := wt1 139 (by decide +kernel) (by decide +kernel)
theorem lyX9_1 : u_lay RX9 TX9 1 ∈ TW := wt1 141 (by decide +kernel) (by decide +kernel)
theorem lyX9_2 : u_lay RX9 TX9 2 ∈ TW := wt1 143 (by decide +kernel) (by decide +kernel)
theorem inX9 : ∀ w ∈ u_ws RX9 TX9 3, w ∈ TW := by
  intro w hw
  obtain ⟨j, hj, rfl⟩ := List.mem_map.mp hw
  have hj := List.mem_range.mp hj
  match j, hj with
  | 0, _ => exact lyX9_0
  | 1, _ => exact lyX9_1
  | 2, _ => exact lyX9_2
  | n + 3, h => exact absurd h (by omega)
theorem lyX10_0 : u_lay RX10 TX10 0 ∈ TW := wt1 120 (by decide +kernel) (by decide +kernel)
theorem lyX10_1 : u_lay RX10 TX10 1 ∈ TW := wt1 122 (by decide +kernel) (by decide +kernel)
theorem lyX10_2 : u_lay RX10 TX10 2 ∈ TW := wt1 124 (by decide +kernel) (by decide +kernel)
theorem lyX10_3 : u_lay RX10 TX10 3 ∈ TW := wt1 126 (by decide +kernel) (by decide +kernel)
theorem inX10 : ∀ w ∈ u_ws RX10 TX10 4, w ∈ TW := by
  intro w hw
  obtain ⟨j, hj, rfl⟩ := List.mem_map.mp hw
  have hj := List.mem_range.mp hj
  match j, hj with
  | 0, _ => exact lyX10_0
  | 1, _ => exact lyX10_1
  | 2, _ => exact lyX10_2
  | 3, _ => exact lyX10_3
  | n + 4, h => exact absurd h (by omega)
theorem lyX11_0 : u_lay RX11 TX11 0 ∈ TW := wt2 87 (by decide +kernel) (by decide +kernel)
theorem lyX11_1 : u_lay RX11 TX11 1 ∈ TW := wt2 89 (by decide +kernel) (by decide +kernel)
theorem lyX11_2 : u_lay RX11 TX11 2 ∈ TW := wt2 91 (by decide +kernel) (by decide +kernel)
theorem lyX11_3 : u_lay RX11 TX11 3 ∈ TW := wt2 93 (by decide +kernel) (by decide +kernel)
theorem lyX11_4 : u_lay RX11 TX11 4 ∈ TW := wt2 95 (by decide +kernel) (by decide +kernel)
theorem lyX11_5 : u_lay RX11 TX11 5 ∈ TW := wt2 97 (by decide +kernel) (by decide +kernel)
theorem lyX11_6 : u_lay RX11 TX11 6 ∈ TW := wt2 99 (by decide +kernel) (by decide +kernel)
theorem lyX11_7 : u_lay RX11 TX11 7 ∈ TW := wt2 101 (by decide +kernel) (by decide +kernel)
theorem lyX11_8 : u_lay RX11 TX11 8 ∈ TW := wt2 103 (by decide +kernel) (by decide +kernel)
theorem lyX11_9 : u_lay RX11 TX11 9 ∈ TW := wt2 105 (by decide +kernel) (by decide +kernel)
theorem lyX11_10 : u_lay RX11 TX11 10 ∈ TW := wt2 107 (by decide +kernel) (by decide +kernel)
theorem lyX11_11 : u_lay RX11 TX11 11 ∈ TW := wt2 109 (by decide +kernel) (by decide +kernel)
theorem lyX11_12 : u_lay RX11 TX11 12 ∈ TW := wt2 111 (by decide +kernel) (by decide +kernel)
theorem lyX11_13 : u_lay RX11 TX11 13 ∈ TW := wt2 113 (by decide +kernel) (by decide +kernel)
theorem lyX11_14 : u_lay RX11 TX11 14 ∈ TW := wt2 115 (by decide +kernel) (by decide +kernel)
theorem inX11 : ∀ w ∈ u_ws RX11 TX11 15, w ∈ TW := by
  intro w hw
  obtain ⟨j, hj, rfl⟩ := List.mem_map.mp hw
  have hj := List.mem_range.mp hj
  match j, hj with
  | 0, _ => exact lyX11_0
  | 1, _ => exact lyX11_1
  | 2, _ => exact lyX11_2
  | 3, _ => exact lyX11_3
  | 4, _ => exact lyX11_4
  | 5, _ => exact lyX11_5
  | 6, _ => exact lyX11_6
  | 7, _ => exact lyX11_7
  | 8, _ => exact lyX11_8
  | 9, _ => exact lyX11_9
  | 10, _ => exact lyX11_10
  | 11, _ => exact lyX11_11
  | 12, _ => exact lyX11_12
  | 13, _ => exact lyX11_13
  | 14, _ => exact lyX11_14
  | n + 15, h => exact absurd h (by omega)
theorem lyX12_0 : u_lay RX12 TX12 0 ∈ TW := wt5 149 (by decide +kernel) (by decide +kernel)
theorem lyX12_1 : u_lay RX12 TX12 1 ∈ TW := wt5 151 (by decide +kernel) (by decide +kernel)
theorem lyX12_2 : u_lay RX12 TX12 2 ∈ TW := wt5 153 (by decide +kernel) (by decide +kernel)
theorem lyX12_3 : u_lay RX12 TX12 3 ∈ TW := wt5 155 (by decide +kernel) (by decide +kernel)
theorem lyX12_4 : u_lay RX12 TX12 4 ∈ TW := wt5 157 (by decide +kernel) (by decide +kernel)
theorem lyX12_5 : u_lay RX12 TX12 5 ∈ TW := wt5 159 (by decide +kernel) (by decide +kernel)
theorem lyX12_6 : u_lay RX12 TX12 6 ∈ TW := wt5 161 (by decide +kernel) (by decide +kernel)
theorem lyX12_7 : u_lay RX12 TX12 7 ∈ TW := wt5 163 (by decide +kernel) (by decide +kernel)
theorem lyX12_8 : u_lay RX12 TX12 8 ∈ TW := wt5 165 (by decide +kernel) (by decide +kernel)
theorem lyX12_9 : u_lay RX12 TX12 9 ∈ TW := wt5 167 (by decide +kernel) (by decide +kernel)
theorem lyX12_10 : u_lay RX12 TX12 10 ∈ TW := wt5 169 (by decide +kernel) (by decide +kernel)
theorem lyX12_11 : u_lay RX12 TX12 11 ∈ TW := wt5 171 (by decide +kernel) (by decide +kernel)
theorem lyX12_12 : u_lay RX12 TX12 12 ∈ TW := wt5 173 (by decide +kernel) (by decide +kernel)
theorem lyX12_13 : u_lay RX12 TX12 13 ∈ TW := wt5 175 (by decide +kernel) (by decide +kernel)
theorem lyX12_14 : u_lay RX12 TX12 14 ∈ TW := wt5 177 (by decide +kernel) (by decide +kernel)
theorem lyX12_15 : u_lay RX12 TX12 15 ∈ TW := wt5 179 (by decide +kernel) (by decide +kernel)
theorem lyX12_16 : u_lay RX12 TX12 16 ∈ TW := wt5 181 (by decide +kernel) (by decide +kernel)
theorem lyX12_17 : u_lay RX12 TX12 17 ∈ TW := wt5 183 (by decide +kernel) (by decide +kernel)
theorem lyX12_18 : u_lay RX12 TX12 18 ∈ TW := wt5 185 (by decide +kernel) (by decide +kernel)
theorem lyX12_19 : u_lay RX12 TX12 19 ∈ TW := wt5 187 (by decide +kernel) (by decide +kernel)
theorem lyX12_20 : u_lay RX12 TX12 20 ∈ TW := wt5 189 (by decide +kernel) (by decide +kernel)
theorem lyX12_21 : u_lay RX12 TX12 21 ∈ TW := wt5 191 (by decide +kernel) (by decide +kernel)
theorem lyX12_22 : u_lay RX12 TX12 22 ∈ TW := wt5 193 (by decide +kernel) (by decide +kernel)
theorem lyX12_23 : u_lay RX12 TX12 23 ∈ TW := wt5 195 (by decide +kernel) (by decide +kernel)
theorem lyX12_24 : u_lay RX12 TX12 24 ∈ TW := wt5 197 (by decide +kernel) (by decide +kernel)
theorem lyX12_25 : u_lay RX12 TX12 25 ∈ TW := wt5 199 (by decide +kernel) (by decide +kernel)
theorem lyX12_26 : u_lay RX12 TX12 26 ∈ TW := wt5 201 (by decide +kernel) (by decide +kernel)
theorem lyX12_27 : u_lay RX12 TX12 27 ∈ TW := wt5 203 (by decide +kernel) (by decide +kernel)
theorem lyX12_28 : u_lay RX12 TX12 28 ∈ TW := wt5 205 (by decide +kernel) (by decide +kernel)
theorem lyX12_29 : u_lay RX12 TX12 29 ∈ TW := wt5 207 (by decide +kernel) (by decide +kernel)
theorem lyX12_30 : u_lay RX12 TX12 30 ∈ TW := wt5 209 (by decide +kernel) (by decide +kernel)
theorem lyX12_31 : u_lay RX12 TX12 31 ∈ TW := wt5 211 (by decide +kernel) (by decide +kernel)
theorem lyX12_32 : u_lay RX12 TX12 32 ∈ TW := wt5 213 (by decide +kernel) (by decide +kernel)
theorem lyX12_33 : u_lay RX12 TX12 33 ∈ TW := wt5 215 (by decide +kernel) (by decide +kernel)
theorem lyX12_34 : u_lay RX12 TX12 34 ∈ TW := wt5 217 (by decide +kernel) (by decide +kernel)
theorem lyX12_35 : u_lay RX12 TX12 35 ∈ TW := wt5 219 (by decide +kernel) (by decide +kernel)
theorem lyX12_36 : u_lay RX12 TX12 36 ∈ TW := wt5 221 (by decide +kernel) (by decide +kernel)
theorem lyX12_37 : u_lay RX12 TX12 37 ∈ TW := wt5 223 (by decide +kernel) (by decide +kernel)
theorem lyX12_38 : u_lay RX12 TX12 38 ∈ TW := wt5 225 (by decide +kernel) (by decide +kernel)
theorem lyX12_39 : u_lay RX12 TX12 39 ∈ TW := wt5 227 (by decide +kernel) (by decide +kernel)
theorem lyX12_40 : u_lay RX12 TX12 40 ∈ TW := wt5 229 (by decide +kernel) (by decide +kernel)
theorem lyX12_41 : u_lay RX12 TX12 41 ∈ TW := wt5 231 (by decide +kernel) (by decide +kernel)
theorem lyX12_42 : u_lay RX12 TX12 42 ∈ TW := wt5 233 (by decide +kernel) (by decide +kernel)
theorem lyX12_43 : u_lay RX12 TX12 43 ∈ TW := wt5 235 (by decide +kernel) (by decide +kernel)
theorem lyX12_44 : u_lay RX12 TX12 44 ∈ TW := wt5 237 (by decide +kernel) (by decide +kernel)
theorem lyX12_45 : u_lay RX12 TX12 45 ∈ TW := wt5 239 (by decide +kernel) (by decide +kernel)
theorem lyX12_46 : u_lay RX12 TX12 46 ∈ TW := wt6 1 (by decide +kernel) (by decide +kernel)
theorem lyX12_47 : u_lay RX12 TX12 47 ∈ TW := wt6 3 (by decide +kernel) (by decide +kernel)
theorem lyX12_48 : u_lay RX12 TX12 48 ∈ TW := wt6 5 (by decide +kernel) (by decide +kernel)
theorem lyX12_49 : u_lay RX12 TX12 49 ∈ TW := wt6 7 (by decide +kernel) (by decide +kernel)
theorem lyX12_50 : u_lay RX12 TX12 50 ∈ TW := wt6 9 (by decide +kernel) (by decide +kernel)
theorem lyX12_51 : u_lay RX12 TX12 51 ∈ TW := wt6 11 (by decide +kernel) (by decide +kernel)
theorem lyX12_52 : u_lay RX12 TX12 52 ∈ TW := wt6 13 (by decide +kernel) (by decide +kernel)
theorem lyX12_53 : u_lay RX12 TX12 53 ∈ TW := wt6 15 (by decide +kernel) (by decide +kernel)
theorem lyX12_54 : u_lay RX12 TX12 54 ∈ TW := wt6 17 (by decide +kernel) (by decide +kernel)
theorem lyX12_55 : u_lay RX12 TX12 55 ∈ TW := wt6 19 (by decide +kernel) (by decide +kernel)
theorem lyX12_56 : u_lay RX12 TX12 56 ∈ TW := wt6 21 (by decide +kernel) (by decide +kernel)
theorem lyX12_57 : u_lay RX12 TX12 57 ∈ TW := wt6 23 (by decide +kernel) (by decide +kernel)
theorem lyX12_58 : u_lay RX12 TX12 58 ∈ TW := wt6 25 (by decide +kernel) (by decide +kernel)
theorem lyX12_59 : u_lay RX12 TX12 59 ∈ TW := wt6 27 (by decide +kernel) (by decide +kernel)
theorem lyX12_60 : u_lay RX12 TX12 60 ∈ TW := wt6 29 (by decide +kernel) (by decide +kernel)
theorem lyX12_61 : u_lay RX12 TX12 61 ∈ TW := wt6 31 (by decide +kernel) (by decide +kernel)
theorem lyX12_62 : u_lay RX12 TX12 62 ∈ TW := wt6 33 (by decide +kernel) (by decide +kernel)
theorem lyX12_63 : u_lay RX12 TX12 63 ∈ TW := wt6 35 (by decide +kernel) (by decide +kernel)
theorem lyX12_64 : u_lay RX12 TX12 64 ∈ TW := wt6 37 (by decide +kernel) (by decide +kernel)
theorem lyX12_65 : u_lay RX12 TX12 65 ∈ TW := wt6 39 (by decide +kernel) (by decide +kernel)
theorem lyX12_66 : u_lay RX12 TX12 66 ∈ TW := wt6 41 (by decide +kernel) (by decide +kernel)
theorem lyX12_67 : u_lay RX12 TX12 67 ∈ TW := wt6 43 (by decide +kernel) (by decide +kernel)
theorem lyX12_68 : u_lay RX12 TX12 68 ∈ TW := wt6 45 (by decide +kernel) (by decide +kernel)
theorem lyX12_69 : u_lay RX12 TX12 69 ∈ TW := wt6 47 (by decide +kernel) (by decide +kernel)
theorem lyX12_70 : u_lay RX12 TX12 70 ∈ TW := wt6 49 (by decide +kernel) (by decide +kernel)
theorem lyX12_71 : u_lay RX12 TX12 71 ∈ TW := wt6 51 (by decide +kernel) (by decide +kernel)
theorem inX12 : ∀ w ∈ u_ws RX12 TX12 72, w ∈ TW := by
  intro w hw
  obtain ⟨j, hj, rfl⟩ := List.mem_map.mp hw
  have hj := List.mem_range.mp hj
  match j, hj with
  | 0, _ => exact lyX12_0
  | 1, _ => exact lyX12_1
  | 2, _ => exact lyX12_2
  | 3, _ => exact lyX12_3
  | 4, _ => exact lyX12_4
  | 5, _ => exact lyX12_5
  | 6, _ => exact lyX12_6
  | 7, _ => exact lyX12_7
  | 8, _ => exact lyX12_8
  | 9, _ => exact lyX12_9
  | 10, _ => exact lyX12_10
  | 11, _ => exact lyX12_11
  | 12, _ => exact lyX12_12
  | 13, _ => exact lyX12_13
  | 14, _ => exact lyX12_14
  | 15, _ => exact lyX12_15
  | 16, _ => exact lyX12_16
  | 17, _ => exact lyX12_17
  | 18, _ => exact lyX12_18
  | 19, _ => exact lyX12_19
  | 20, _ => exact lyX12_20
  | 21, _ => exact lyX12_21
  | 22, _ => exact lyX12_22
  | 23, _ => exact lyX12_23
  | 24, _ => exact lyX12_24
  | 25, _ => exact lyX12_25
  | 26, _ => exact lyX12_26
  | 27, _ => exact lyX12_27
  | 28, _ => exact lyX12_28
  | 29, _ => exact lyX12_29
  | 30, _ => exact lyX12_30
  | 31, _ => exact lyX12_31
  | 32, _ => exact lyX12_32
  | 33, _ => exact lyX12_33
  | 34, _ => exact lyX12_34
  | 35, _ => exact lyX12_35
  | 36, _ => exact lyX12_36
  | 37, _ => exact lyX12_37
  | 38, _ => exact lyX12_38
  | 39, _ => exact lyX12_39
  | 40, _ => exact lyX12_40
  | 41, _ => exact lyX12_41
  | 42, _ => exact lyX12_42
  | 43, _ => exact lyX12_43
  | 44, _ => exact lyX12_44
  | 45, _ => exact lyX12_45
  | 46, _ => exact lyX12_46
  | 47, _ => exact lyX12_47
  | 48, _ => exact lyX12_48
  | 49, _ => exact lyX12_49
  | 50, _ => exact lyX12_50
  | 51, _ => exact lyX12_51
  | 52, _ => exact lyX12_52
  | 53, _ => exact lyX12_53
  | 54, _ => exact lyX12_54
  | 55, _ => exact lyX12_55
  | 56, _ => exact lyX12_56
  | 57, _ => exact lyX12_57
  | 58, _ => exact lyX12_58
  | 59, _ => exact lyX12_59
  | 60, _ => exact lyX12_60
  | 61, _ => exact lyX12_61
  | 62, _ => exact lyX12_62
  | 63, _ => exact lyX12_63
  | 64, _ => exact lyX12_64
  | 65, _ => exact lyX12_65
  | 66, _ => exact lyX12_66
  | 67, _ => exact lyX12_67
  | 68, _ => exact lyX12_68
  | 69, _ => exact lyX12_69
  | 70, _ => exact lyX12_70
  | 71, _ => exact lyX12_71
  | n + 72, h => exact absurd h (by omega)
def fty (k s : Nat) : FieldType := match k with
  | 0 => tyX0 s
  | 1 => tyX1 s
  | 2 => tyX2 s
  | 3 => tyX3 s
  | 4 => tyX4 s
  | 5 => tyX5 s
  | 6 => tyX6 s
  | 7 => tyX7 s
  | 8 => tyX8 s
  | 9 => tyX9 s
  | 10 => tyX10 s
  | 11 => tyX11 s
  | _ => tyX12 s
end
