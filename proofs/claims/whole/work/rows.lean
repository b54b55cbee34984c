section
-- ===== PART A: goes FIRST, ahead of the names: the tables' words, and 'selects' of the private methods out of them =====
/-- a private method of a class that the tables say can be made, by its rows of tables_1 -/
def lw_okq (q : MethodName × Nat) : Prop := (q.1.cls ≠ "java/lang/invoke/MethodHandle" ∧ q.1.cls ≠ "java/lang/invoke/VarHandle") ∧ Cond.instantiable q.1.cls q.2 ∈ tables_1 ∧ Cond.privateMethod q.1 ∈ tables_1 ∧ Cond.instanceMethod q.1 ∈ tables_1
theorem lw_p0 : lw_okq (⟨"AlikeUnlike$Form", "otherMays", "(I)I"⟩, 3) := ⟨⟨by decide +kernel, by decide +kernel⟩, List.mem_of_getElem? (i := 26) (by decide +kernel), List.mem_of_getElem? (i := 383) (by decide +kernel), List.mem_of_getElem? (i := 384) (by decide +kernel)⟩
theorem lw_p1 : lw_okq (⟨"AlikeUnlike$Page", "takes", "(I)Z"⟩, 9) := ⟨⟨by decide +kernel, by decide +kernel⟩, List.mem_of_getElem? (i := 75) (by decide +kernel), List.mem_of_getElem? (i := 450) (by decide +kernel), List.mem_of_getElem? (i := 451) (by decide +kernel)⟩
theorem lw_p2 : lw_okq (⟨"AlikeUnlike$Page", "takesFactor", "(I)Z"⟩, 9) := ⟨⟨by decide +kernel, by decide +kernel⟩, List.mem_of_getElem? (i := 75) (by decide +kernel), List.mem_of_getElem? (i := 454) (by decide +kernel), List.mem_of_getElem? (i := 455) (by decide +kernel)⟩
theorem lw_p3 : lw_okq (⟨"AlikeUnlike$Page", "goesOn", "(I)Z"⟩, 9) := ⟨⟨by decide +kernel, by decide +kernel⟩, List.mem_of_getElem? (i := 75) (by decide +kernel), List.mem_of_getElem? (i := 458) (by decide +kernel), List.mem_of_getElem? (i := 459) (by decide +kernel)⟩
theorem lw_p4 : lw_okq (⟨"AlikeUnlike$Page", "takesUnit", "(I)Z"⟩, 9) := ⟨⟨by decide +kernel, by decide +kernel⟩, List.mem_of_getElem? (i := 75) (by decide +kernel), List.mem_of_getElem? (i := 462) (by decide +kernel), List.mem_of_getElem? (i := 463) (by decide +kernel)⟩
theorem lw_p5 : lw_okq (⟨"AlikeUnlike$Page", "takesBehindUnit", "(I)Z"⟩, 9) := ⟨⟨by decide +kernel, by decide +kernel⟩, List.mem_of_getElem? (i := 75) (by decide +kernel), List.mem_of_getElem? (i := 472) (by decide +kernel), List.mem_of_getElem? (i := 473) (by decide +kernel)⟩
theorem lw_p6 : lw_okq (⟨"AlikeUnlike$Page", "takesBehindFactor", "(I)Z"⟩, 9) := ⟨⟨by decide +kernel, by decide +kernel⟩, List.mem_of_getElem? (i := 75) (by decide +kernel), List.mem_of_getElem? (i := 476) (by decide +kernel), List.mem_of_getElem? (i := 477) (by decide +kernel)⟩
theorem lw_p7 : lw_okq (⟨"AlikeUnlike$Script", "take", "(II)V"⟩, 8) := ⟨⟨by decide +kernel, by decide +kernel⟩, List.mem_of_getElem? (i := 33) (by decide +kernel), List.mem_of_getElem? (i := 501) (by decide +kernel), List.mem_of_getElem? (i := 502) (by decide +kernel)⟩
theorem lw_p8 : lw_okq (⟨"AlikeUnlike$Script", "takeDigit", "(II)V"⟩, 8) := ⟨⟨by decide +kernel, by decide +kernel⟩, List.mem_of_getElem? (i := 33) (by decide +kernel), List.mem_of_getElem? (i := 506) (by decide +kernel), List.mem_of_getElem? (i := 507) (by decide +kernel)⟩
theorem lw_p9 : lw_okq (⟨"AlikeUnlike$Script", "add", "(I)V"⟩, 8) := ⟨⟨by decide +kernel, by decide +kernel⟩, List.mem_of_getElem? (i := 33) (by decide +kernel), List.mem_of_getElem? (i := 510) (by decide +kernel), List.mem_of_getElem? (i := 511) (by decide +kernel)⟩
theorem lw_p10 : lw_okq (⟨"AlikeUnlike$Script", "hold", "(I)V"⟩, 8) := ⟨⟨by decide +kernel, by decide +kernel⟩, List.mem_of_getElem? (i := 33) (by decide +kernel), List.mem_of_getElem? (i := 523) (by decide +kernel), List.mem_of_getElem? (i := 524) (by decide +kernel)⟩
theorem lw_p11 : lw_okq (⟨"AlikeUnlike$Script", "release", "(I)V"⟩, 8) := ⟨⟨by decide +kernel, by decide +kernel⟩, List.mem_of_getElem? (i := 33) (by decide +kernel), List.mem_of_getElem? (i := 527) (by decide +kernel), List.mem_of_getElem? (i := 528) (by decide +kernel)⟩
theorem lw_p12 : lw_okq (⟨"AlikeUnlike$Walker", "push", "(J)V"⟩, 4) := ⟨⟨by decide +kernel, by decide +kernel⟩, List.mem_of_getElem? (i := 111) (by decide +kernel), List.mem_of_getElem? (i := 554) (by decide +kernel), List.mem_of_getElem? (i := 555) (by decide +kernel)⟩
theorem lw_p13 : lw_okq (⟨"AlikeUnlike$Walker", "pushField", "(I)V"⟩, 4) := ⟨⟨by decide +kernel, by decide +kernel⟩, List.mem_of_getElem? (i := 111) (by decide +kernel), List.mem_of_getElem? (i := 563) (by decide +kernel), List.mem_of_getElem? (i := 564) (by decide +kernel)⟩
theorem lw_p14 : lw_okq (⟨"AlikeUnlike$Walker", "turn", "()V"⟩, 4) := ⟨⟨by decide +kernel, by decide +kernel⟩, List.mem_of_getElem? (i := 111) (by decide +kernel), List.mem_of_getElem? (i := 567) (by decide +kernel), List.mem_of_getElem? (i := 568) (by decide +kernel)⟩
theorem lw_p15 : lw_okq (⟨"AlikeUnlike$Walker", "join", "(I)V"⟩, 4) := ⟨⟨by decide +kernel, by decide +kernel⟩, List.mem_of_getElem? (i := 111) (by decide +kernel), List.mem_of_getElem? (i := 572) (by decide +kernel), List.mem_of_getElem? (i := 573) (by decide +kernel)⟩
def lw_privs_1 : List (MethodName × Nat) := [(⟨"AlikeUnlike$Form", "otherMays", "(I)I"⟩, 3), (⟨"AlikeUnlike$Page", "takes", "(I)Z"⟩, 9), (⟨"AlikeUnlike$Page", "takesFactor", "(I)Z"⟩, 9), (⟨"AlikeUnlike$Page", "goesOn", "(I)Z"⟩, 9), (⟨"AlikeUnlike$Page", "takesUnit", "(I)Z"⟩, 9), (⟨"AlikeUnlike$Page", "takesBehindUnit", "(I)Z"⟩, 9), (⟨"AlikeUnlike$Page", "takesBehindFactor", "(I)Z"⟩, 9), (⟨"AlikeUnlike$Script", "take", "(II)V"⟩, 8), (⟨"AlikeUnlike$Script", "takeDigit", "(II)V"⟩, 8), (⟨"AlikeUnlike$Script", "add", "(I)V"⟩, 8), (⟨"AlikeUnlike$Script", "hold", "(I)V"⟩, 8), (⟨"AlikeUnlike$Script", "release", "(I)V"⟩, 8), (⟨"AlikeUnlike$Walker", "push", "(J)V"⟩, 4), (⟨"AlikeUnlike$Walker", "pushField", "(I)V"⟩, 4), (⟨"AlikeUnlike$Walker", "turn", "()V"⟩, 4), (⟨"AlikeUnlike$Walker", "join", "(I)V"⟩, 4)]
theorem lw_r1 : ∀ q ∈ lw_privs_1, lw_okq q := List.forall_mem_cons.mpr ⟨lw_p0, List.forall_mem_cons.mpr ⟨lw_p1, List.forall_mem_cons.mpr ⟨lw_p2, List.forall_mem_cons.mpr ⟨lw_p3, List.forall_mem_cons.mpr ⟨lw_p4, List.forall_mem_cons.mpr ⟨lw_p5, List.forall_mem_cons.mpr ⟨lw_p6, List.forall_mem_cons.mpr ⟨lw_p7, List.forall_mem_cons.mpr ⟨lw_p8, List.forall_mem_cons.mpr ⟨lw_p9, List.forall_mem_cons.mpr ⟨lw_p10, List.forall_mem_cons.mpr ⟨lw_p11, List.forall_mem_cons.mpr ⟨lw_p12, List.forall_mem_cons.mpr ⟨lw_p13, List.forall_mem_cons.mpr ⟨lw_p14, List.forall_mem_cons.mpr ⟨lw_p15, fun _ h => absurd h List.not_mem_nil⟩⟩⟩⟩⟩⟩⟩⟩⟩⟩⟩⟩⟩⟩⟩⟩
theorem lw_p16 : lw_okq (⟨"AlikeUnlike$Walker", "endsLine", "()Z"⟩, 4) := ⟨⟨by decide +kernel, by decide +kernel⟩, List.mem_of_getElem? (i := 111) (by decide +kernel), List.mem_of_getElem? (i := 580) (by decide +kernel), List.mem_of_getElem? (i := 581) (by decide +kernel)⟩
theorem lw_p17 : lw_okq (⟨"AlikeUnlike", "hasProgram", "()Z"⟩, 15) := ⟨⟨by decide +kernel, by decide +kernel⟩, List.mem_of_getElem? (i := 18) (by decide +kernel), List.mem_of_getElem? (i := 619) (by decide +kernel), List.mem_of_getElem? (i := 620) (by decide +kernel)⟩
theorem lw_p18 : lw_okq (⟨"AlikeUnlike", "ranGuest", "(I)I"⟩, 15) := ⟨⟨by decide +kernel, by decide +kernel⟩, List.mem_of_getElem? (i := 18) (by decide +kernel), List.mem_of_getElem? (i := 623) (by decide +kernel), List.mem_of_getElem? (i := 624) (by decide +kernel)⟩
theorem lw_p19 : lw_okq (⟨"AlikeUnlike$Search", "begin", "(LAlikeUnlike$Form;I)V"⟩, 9) := ⟨⟨by decide +kernel, by decide +kernel⟩, List.mem_of_getElem? (i := 147) (by decide +kernel), List.mem_of_getElem? (i := 654) (by decide +kernel), List.mem_of_getElem? (i := 655) (by decide +kernel)⟩
theorem lw_p20 : lw_okq (⟨"AlikeUnlike$Search", "widestOf", "(I)I"⟩, 9) := ⟨⟨by decide +kernel, by decide +kernel⟩, List.mem_of_getElem? (i := 147) (by decide +kernel), List.mem_of_getElem? (i := 660) (by decide +kernel), List.mem_of_getElem? (i := 661) (by decide +kernel)⟩
theorem lw_p21 : lw_okq (⟨"AlikeUnlike$Search", "isSettled", "(LAlikeUnlike$Form;LAlikeUnlike$Script;LAlikeUnlike$Spanner;I)Z"⟩, 9) := ⟨⟨by decide +kernel, by decide +kernel⟩, List.mem_of_getElem? (i := 147) (by decide +kernel), List.mem_of_getElem? (i := 664) (by decide +kernel), List.mem_of_getElem? (i := 665) (by decide +kernel)⟩
theorem lw_p22 : lw_okq (⟨"AlikeUnlike$Search", "hasNoMore", "(I)Z"⟩, 9) := ⟨⟨by decide +kernel, by decide +kernel⟩, List.mem_of_getElem? (i := 147) (by decide +kernel), List.mem_of_getElem? (i := 668) (by decide +kernel), List.mem_of_getElem? (i := 669) (by decide +kernel)⟩
theorem lw_p23 : lw_okq (⟨"AlikeUnlike$Spanner", "push", "(JJ)V"⟩, 3) := ⟨⟨by decide +kernel, by decide +kernel⟩, List.mem_of_getElem? (i := 131) (by decide +kernel), List.mem_of_getElem? (i := 684) (by decide +kernel), List.mem_of_getElem? (i := 685) (by decide +kernel)⟩
theorem lw_p24 : lw_okq (⟨"AlikeUnlike$Spanner", "turn", "()V"⟩, 3) := ⟨⟨by decide +kernel, by decide +kernel⟩, List.mem_of_getElem? (i := 131) (by decide +kernel), List.mem_of_getElem? (i := 689) (by decide +kernel), List.mem_of_getElem? (i := 690) (by decide +kernel)⟩
theorem lw_p25 : lw_okq (⟨"AlikeUnlike$Spanner", "join", "(I)V"⟩, 3) := ⟨⟨by decide +kernel, by decide +kernel⟩, List.mem_of_getElem? (i := 131) (by decide +kernel), List.mem_of_getElem? (i := 693) (by decide +kernel), List.mem_of_getElem? (i := 694) (by decide +kernel)⟩
theorem lw_p26 : lw_okq (⟨"AlikeUnlike$Search", "pointOf", "(I)J"⟩, 9) := ⟨⟨by decide +kernel, by decide +kernel⟩, List.mem_of_getElem? (i := 147) (by decide +kernel), List.mem_of_getElem? (i := 709) (by decide +kernel), List.mem_of_getElem? (i := 710) (by decide +kernel)⟩
theorem lw_p27 : lw_okq (⟨"AlikeUnlike$Search", "cut", "(II)V"⟩, 9) := ⟨⟨by decide +kernel, by decide +kernel⟩, List.mem_of_getElem? (i := 147) (by decide +kernel), List.mem_of_getElem? (i := 714) (by decide +kernel), List.mem_of_getElem? (i := 715) (by decide +kernel)⟩
theorem lw_p28 : lw_okq (⟨"AlikeUnlike$Search", "halve", "(II)V"⟩, 9) := ⟨⟨by decide +kernel, by decide +kernel⟩, List.mem_of_getElem? (i := 147) (by decide +kernel), List.mem_of_getElem? (i := 721) (by decide +kernel), List.mem_of_getElem? (i := 722) (by decide +kernel)⟩
theorem lw_p29 : lw_okq (⟨"AlikeUnlike", "isRow", "(I)Z"⟩, 15) := ⟨⟨by decide +kernel, by decide +kernel⟩, List.mem_of_getElem? (i := 18) (by decide +kernel), List.mem_of_getElem? (i := 773) (by decide +kernel), List.mem_of_getElem? (i := 774) (by decide +kernel)⟩
theorem lw_p30 : lw_okq (⟨"AlikeUnlike$Came", "isRowHere", "(I)Z"⟩, 14) := ⟨⟨by decide +kernel, by decide +kernel⟩, List.mem_of_getElem? (i := 183) (by decide +kernel), List.mem_of_getElem? (i := 781) (by decide +kernel), List.mem_of_getElem? (i := 782) (by decide +kernel)⟩
theorem lw_p31 : lw_okq (⟨"AlikeUnlike$Came", "isAs", "(II)Z"⟩, 14) := ⟨⟨by decide +kernel, by decide +kernel⟩, List.mem_of_getElem? (i := 183) (by decide +kernel), List.mem_of_getElem? (i := 798) (by decide +kernel), List.mem_of_getElem? (i := 799) (by decide +kernel)⟩
def lw_privs_2 : List (MethodName × Nat) := [(⟨"AlikeUnlike$Walker", "endsLine", "()Z"⟩, 4), (⟨"AlikeUnlike", "hasProgram", "()Z"⟩, 15), (⟨"AlikeUnlike", "ranGuest", "(I)I"⟩, 15), (⟨"AlikeUnlike$Search", "begin", "(LAlikeUnlike$Form;I)V"⟩, 9), (⟨"AlikeUnlike$Search", "widestOf", "(I)I"⟩, 9), (⟨"AlikeUnlike$Search", "isSettled", "(LAlikeUnlike$Form;LAlikeUnlike$Script;LAlikeUnlike$Spanner;I)Z"⟩, 9), (⟨"AlikeUnlike$Search", "hasNoMore", "(I)Z"⟩, 9), (⟨"AlikeUnlike$Spanner", "push", "(JJ)V"⟩, 3), (⟨"AlikeUnlike$Spanner", "turn", "()V"⟩, 3), (⟨"AlikeUnlike$Spanner", "join", "(I)V"⟩, 3), (⟨"AlikeUnlike$Search", "pointOf", "(I)J"⟩, 9), (⟨"AlikeUnlike$Search", "cut", "(II)V"⟩, 9), (⟨"AlikeUnlike$Search", "halve", "(II)V"⟩, 9), (⟨"AlikeUnlike", "isRow", "(I)Z"⟩, 15), (⟨"AlikeUnlike$Came", "isRowHere", "(I)Z"⟩, 14), (⟨"AlikeUnlike$Came", "isAs", "(II)Z"⟩, 14)]
theorem lw_r2 : ∀ q ∈ lw_privs_2, lw_okq q := List.forall_mem_cons.mpr ⟨lw_p16, List.forall_mem_cons.mpr ⟨lw_p17, List.forall_mem_cons.mpr ⟨lw_p18, List.forall_mem_cons.mpr ⟨lw_p19, List.forall_mem_cons.mpr ⟨lw_p20, List.forall_mem_cons.mpr ⟨lw_p21, List.forall_mem_cons.mpr ⟨lw_p22, List.forall_mem_cons.mpr ⟨lw_p23, List.forall_mem_cons.mpr ⟨lw_p24, List.forall_mem_cons.mpr ⟨lw_p25, List.forall_mem_cons.mpr ⟨lw_p26, List.forall_mem_cons.mpr ⟨lw_p27, List.forall_mem_cons.mpr ⟨lw_p28, List.forall_mem_cons.mpr ⟨lw_p29, List.forall_mem_cons.mpr ⟨lw_p30, List.forall_mem_cons.mpr ⟨lw_p31, fun _ h => absurd h List.not_mem_nil⟩⟩⟩⟩⟩⟩⟩⟩⟩⟩⟩⟩⟩⟩⟩⟩
theorem lw_p32 : lw_okq (⟨"AlikeUnlike", "refusalOfGroups", "(IIIII)I"⟩, 15) := ⟨⟨by decide +kernel, by decide +kernel⟩, List.mem_of_getElem? (i := 18) (by decide +kernel), List.mem_of_getElem? (i := 808) (by decide +kernel), List.mem_of_getElem? (i := 809) (by decide +kernel)⟩
theorem lw_p33 : lw_okq (⟨"AlikeUnlike$Came", "tally", "(I)V"⟩, 14) := ⟨⟨by decide +kernel, by decide +kernel⟩, List.mem_of_getElem? (i := 183) (by decide +kernel), List.mem_of_getElem? (i := 852) (by decide +kernel), List.mem_of_getElem? (i := 853) (by decide +kernel)⟩
theorem lw_p34 : lw_okq (⟨"AlikeUnlike$Came", "lookAlong", "(III)V"⟩, 14) := ⟨⟨by decide +kernel, by decide +kernel⟩, List.mem_of_getElem? (i := 183) (by decide +kernel), List.mem_of_getElem? (i := 857) (by decide +kernel), List.mem_of_getElem? (i := 858) (by decide +kernel)⟩
theorem lw_p35 : lw_okq (⟨"AlikeUnlike$Came", "keepIfGreater", "(IIIJJ)V"⟩, 14) := ⟨⟨by decide +kernel, by decide +kernel⟩, List.mem_of_getElem? (i := 183) (by decide +kernel), List.mem_of_getElem? (i := 862) (by decide +kernel), List.mem_of_getElem? (i := 863) (by decide +kernel)⟩
theorem lw_p36 : lw_okq (⟨"AlikeUnlike$Askings", "weighOthers", "(III)V"⟩, 6) := ⟨⟨by decide +kernel, by decide +kernel⟩, List.mem_of_getElem? (i := 286) (by decide +kernel), List.mem_of_getElem? (i := 882) (by decide +kernel), List.mem_of_getElem? (i := 883) (by decide +kernel)⟩
theorem lw_p37 : lw_okq (⟨"AlikeUnlike$Askings", "met", "(IIII)I"⟩, 6) := ⟨⟨by decide +kernel, by decide +kernel⟩, List.mem_of_getElem? (i := 286) (by decide +kernel), List.mem_of_getElem? (i := 886) (by decide +kernel), List.mem_of_getElem? (i := 887) (by decide +kernel)⟩
theorem lw_p38 : lw_okq (⟨"AlikeUnlike$Mender", "gather", "(LAlikeUnlike$Came;II)V"⟩, 6) := ⟨⟨by decide +kernel, by decide +kernel⟩, List.mem_of_getElem? (i := 243) (by decide +kernel), List.mem_of_getElem? (i := 913) (by decide +kernel), List.mem_of_getElem? (i := 914) (by decide +kernel)⟩
theorem lw_p39 : lw_okq (⟨"AlikeUnlike$Mender", "isEven", "(LAlikeUnlike$Script;LAlikeUnlike$Walker;LAlikeUnlike$Came;)Z"⟩, 6) := ⟨⟨by decide +kernel, by decide +kernel⟩, List.mem_of_getElem? (i := 243) (by decide +kernel), List.mem_of_getElem? (i := 919) (by decide +kernel), List.mem_of_getElem? (i := 920) (by decide +kernel)⟩
theorem lw_p40 : lw_okq (⟨"AlikeUnlike$Mender", "keep", "(III)V"⟩, 6) := ⟨⟨by decide +kernel, by decide +kernel⟩, List.mem_of_getElem? (i := 243) (by decide +kernel), List.mem_of_getElem? (i := 929) (by decide +kernel), List.mem_of_getElem? (i := 930) (by decide +kernel)⟩
theorem lw_p41 : lw_okq (⟨"AlikeUnlike$Mender", "tryNumber", "(LAlikeUnlike$Script;LAlikeUnlike$Walker;LAlikeUnlike$Came;II)V"⟩, 6) := ⟨⟨by decide +kernel, by decide +kernel⟩, List.mem_of_getElem? (i := 243) (by decide +kernel), List.mem_of_getElem? (i := 937) (by decide +kernel), List.mem_of_getElem? (i := 938) (by decide +kernel)⟩
theorem lw_p42 : lw_okq (⟨"AlikeUnlike", "wasRefused", "(I)Z"⟩, 15) := ⟨⟨by decide +kernel, by decide +kernel⟩, List.mem_of_getElem? (i := 18) (by decide +kernel), List.mem_of_getElem? (i := 952) (by decide +kernel), List.mem_of_getElem? (i := 953) (by decide +kernel)⟩
theorem lw_p43 : lw_okq (⟨"AlikeUnlike$Cheapest", "goThrough", "(LAlikeUnlike$Form;LAlikeUnlike$Script;LAlikeUnlike$Walker;LAlikeUnlike$Person;II)V"⟩, 3) := ⟨⟨by decide +kernel, by decide +kernel⟩, List.mem_of_getElem? (i := 268) (by decide +kernel), List.mem_of_getElem? (i := 969) (by decide +kernel), List.mem_of_getElem? (i := 970) (by decide +kernel)⟩
theorem lw_p44 : lw_okq (⟨"AlikeUnlike", "foldedGuest", "(J)J"⟩, 15) := ⟨⟨by decide +kernel, by decide +kernel⟩, List.mem_of_getElem? (i := 18) (by decide +kernel), List.mem_of_getElem? (i := 1022) (by decide +kernel), List.mem_of_getElem? (i := 1023) (by decide +kernel)⟩
theorem lw_p45 : lw_okq (⟨"AlikeUnlikeModel", "mayMany", "()I"⟩, 72) := ⟨⟨by decide +kernel, by decide +kernel⟩, List.mem_of_getElem? (i := 1033) (by decide +kernel), List.mem_of_getElem? (i := 1270) (by decide +kernel), List.mem_of_getElem? (i := 1271) (by decide +kernel)⟩
theorem lw_p46 : lw_okq (⟨"AlikeUnlikeModel", "told", "(II)I"⟩, 72) := ⟨⟨by decide +kernel, by decide +kernel⟩, List.mem_of_getElem? (i := 1033) (by decide +kernel), List.mem_of_getElem? (i := 1274) (by decide +kernel), List.mem_of_getElem? (i := 1275) (by decide +kernel)⟩
theorem lw_p47 : lw_okq (⟨"AlikeUnlikeModel", "counts", "(I)Z"⟩, 72) := ⟨⟨by decide +kernel, by decide +kernel⟩, List.mem_of_getElem? (i := 1033) (by decide +kernel), List.mem_of_getElem? (i := 1286) (by decide +kernel), List.mem_of_getElem? (i := 1287) (by decide +kernel)⟩
def lw_privs_3 : List (MethodName × Nat) := [(⟨"AlikeUnlike", "refusalOfGroups", "(IIIII)I"⟩, 15), (⟨"AlikeUnlike$Came", "tally", "(I)V"⟩, 14), (⟨"AlikeUnlike$Came", "lookAlong", "(III)V"⟩, 14), (⟨"AlikeUnlike$Came", "keepIfGreater", "(IIIJJ)V"⟩, 14), (⟨"AlikeUnlike$Askings", "weighOthers", "(III)V"⟩, 6), (⟨"AlikeUnlike$Askings", "met", "(IIII)I"⟩, 6), (⟨"AlikeUnlike$Mender", "gather", "(LAlikeUnlike$Came;II)V"⟩, 6), (⟨"AlikeUnlike$Mender", "isEven", "(LAlikeUnlike$Script;LAlikeUnlike$Walker;LAlikeUnlike$Came;)Z"⟩, 6), (⟨"AlikeUnlike$Mender", "keep", "(III)V"⟩, 6), (⟨"AlikeUnlike$Mender", "tryNumber", "(LAlikeUnlike$Script;LAlikeUnlike$Walker;LAlikeUnlike$Came;II)V"⟩, 6), (⟨"AlikeUnlike", "wasRefused", "(I)Z"⟩, 15), (⟨"AlikeUnlike$Cheapest", "goThrough", "(LAlikeUnlike$Form;LAlikeUnlike$Script;LAlikeUnlike$Walker;LAlikeUnlike$Person;II)V"⟩, 3), (⟨"AlikeUnlike", "foldedGuest", "(J)J"⟩, 15), (⟨"AlikeUnlikeModel", "mayMany", "()I"⟩, 72), (⟨"AlikeUnlikeModel", "told", "(II)I"⟩, 72), (⟨"AlikeUnlikeModel", "counts", "(I)Z"⟩, 72)]
theorem lw_r3 : ∀ q ∈ lw_privs_3, lw_okq q := List.forall_mem_cons.mpr ⟨lw_p32, List.forall_mem_cons.mpr ⟨lw_p33, List.forall_mem_cons.mpr ⟨lw_p34, List.forall_mem_cons.mpr ⟨lw_p35, List.forall_mem_cons.mpr ⟨lw_p36, List.forall_mem_cons.mpr ⟨lw_p37, List.forall_mem_cons.mpr ⟨lw_p38, List.forall_mem_cons.mpr ⟨lw_p39, List.forall_mem_cons.mpr ⟨lw_p40, List.forall_mem_cons.mpr ⟨lw_p41, List.forall_mem_cons.mpr ⟨lw_p42, List.forall_mem_cons.mpr ⟨lw_p43, List.forall_mem_cons.mpr ⟨lw_p44, List.forall_mem_cons.mpr ⟨lw_p45, List.forall_mem_cons.mpr ⟨lw_p46, List.forall_mem_cons.mpr ⟨lw_p47, fun _ h => absurd h List.not_mem_nil⟩⟩⟩⟩⟩⟩⟩⟩⟩⟩⟩⟩⟩⟩⟩⟩
theorem lw_p48 : lw_okq (⟨"AlikeUnlikeModel", "faultOf", "(I)I"⟩, 72) := ⟨⟨by decide +kernel, by decide +kernel⟩, List.mem_of_getElem? (i := 1033) (by decide +kernel), List.mem_of_getElem? (i := 1303) (by decide +kernel), List.mem_of_getElem? (i := 1304) (by decide +kernel)⟩
theorem lw_p49 : lw_okq (⟨"AlikeUnlikeModel", "go", "(II)Z"⟩, 72) := ⟨⟨by decide +kernel, by decide +kernel⟩, List.mem_of_getElem? (i := 1033) (by decide +kernel), List.mem_of_getElem? (i := 1307) (by decide +kernel), List.mem_of_getElem? (i := 1308) (by decide +kernel)⟩
theorem lw_p50 : lw_okq (⟨"AlikeUnlikeModel", "goFactor", "(II)Z"⟩, 72) := ⟨⟨by decide +kernel, by decide +kernel⟩, List.mem_of_getElem? (i := 1033) (by decide +kernel), List.mem_of_getElem? (i := 1311) (by decide +kernel), List.mem_of_getElem? (i := 1312) (by decide +kernel)⟩
theorem lw_p51 : lw_okq (⟨"AlikeUnlikeModel", "takeUnit", "(I)Z"⟩, 72) := ⟨⟨by decide +kernel, by decide +kernel⟩, List.mem_of_getElem? (i := 1033) (by decide +kernel), List.mem_of_getElem? (i := 1315) (by decide +kernel), List.mem_of_getElem? (i := 1316) (by decide +kernel)⟩
theorem lw_p52 : lw_okq (⟨"AlikeUnlikeModel", "lay", "(II)V"⟩, 72) := ⟨⟨by decide +kernel, by decide +kernel⟩, List.mem_of_getElem? (i := 1033) (by decide +kernel), List.mem_of_getElem? (i := 1321) (by decide +kernel), List.mem_of_getElem? (i := 1322) (by decide +kernel)⟩
theorem lw_p53 : lw_okq (⟨"AlikeUnlikeModel", "goBehind", "(II)Z"⟩, 72) := ⟨⟨by decide +kernel, by decide +kernel⟩, List.mem_of_getElem? (i := 1033) (by decide +kernel), List.mem_of_getElem? (i := 1327) (by decide +kernel), List.mem_of_getElem? (i := 1328) (by decide +kernel)⟩
theorem lw_p54 : lw_okq (⟨"AlikeUnlikeModel", "await", "(II)V"⟩, 72) := ⟨⟨by decide +kernel, by decide +kernel⟩, List.mem_of_getElem? (i := 1033) (by decide +kernel), List.mem_of_getElem? (i := 1331) (by decide +kernel), List.mem_of_getElem? (i := 1332) (by decide +kernel)⟩
theorem lw_p55 : lw_okq (⟨"AlikeUnlikeModel", "layDown", "(I)V"⟩, 72) := ⟨⟨by decide +kernel, by decide +kernel⟩, List.mem_of_getElem? (i := 1033) (by decide +kernel), List.mem_of_getElem? (i := 1335) (by decide +kernel), List.mem_of_getElem? (i := 1336) (by decide +kernel)⟩
theorem lw_p56 : lw_okq (⟨"AlikeUnlikeModel", "goOn", "(II)Z"⟩, 72) := ⟨⟨by decide +kernel, by decide +kernel⟩, List.mem_of_getElem? (i := 1033) (by decide +kernel), List.mem_of_getElem? (i := 1339) (by decide +kernel), List.mem_of_getElem? (i := 1340) (by decide +kernel)⟩
theorem lw_p57 : lw_okq (⟨"AlikeUnlikeModel", "takePerson", "(J)Z"⟩, 72) := ⟨⟨by decide +kernel, by decide +kernel⟩, List.mem_of_getElem? (i := 1033) (by decide +kernel), List.mem_of_getElem? (i := 1359) (by decide +kernel), List.mem_of_getElem? (i := 1360) (by decide +kernel)⟩
theorem lw_p58 : lw_okq (⟨"AlikeUnlikeModel", "toldOf", "(I)I"⟩, 72) := ⟨⟨by decide +kernel, by decide +kernel⟩, List.mem_of_getElem? (i := 1033) (by decide +kernel), List.mem_of_getElem? (i := 1365) (by decide +kernel), List.mem_of_getElem? (i := 1366) (by decide +kernel)⟩
theorem lw_p59 : lw_okq (⟨"AlikeUnlikeModel", "couldCome", "()Z"⟩, 72) := ⟨⟨by decide +kernel, by decide +kernel⟩, List.mem_of_getElem? (i := 1033) (by decide +kernel), List.mem_of_getElem? (i := 1369) (by decide +kernel), List.mem_of_getElem? (i := 1370) (by decide +kernel)⟩
theorem lw_p60 : lw_okq (⟨"AlikeUnlikeModel", "takeLaw", "(I)V"⟩, 72) := ⟨⟨by decide +kernel, by decide +kernel⟩, List.mem_of_getElem? (i := 1033) (by decide +kernel), List.mem_of_getElem? (i := 1373) (by decide +kernel), List.mem_of_getElem? (i := 1374) (by decide +kernel)⟩
theorem lw_p61 : lw_okq (⟨"AlikeUnlikeModel", "holds", "([I[III)I"⟩, 72) := ⟨⟨by decide +kernel, by decide +kernel⟩, List.mem_of_getElem? (i := 1033) (by decide +kernel), List.mem_of_getElem? (i := 1377) (by decide +kernel), List.mem_of_getElem? (i := 1378) (by decide +kernel)⟩
theorem lw_p62 : lw_okq (⟨"AlikeUnlikeModel", "runWho", "()I"⟩, 72) := ⟨⟨by decide +kernel, by decide +kernel⟩, List.mem_of_getElem? (i := 1033) (by decide +kernel), List.mem_of_getElem? (i := 1387) (by decide +kernel), List.mem_of_getElem? (i := 1388) (by decide +kernel)⟩
theorem lw_p63 : lw_okq (⟨"AlikeUnlikeModel", "search", "(II)I"⟩, 72) := ⟨⟨by decide +kernel, by decide +kernel⟩, List.mem_of_getElem? (i := 1033) (by decide +kernel), List.mem_of_getElem? (i := 1396) (by decide +kernel), List.mem_of_getElem? (i := 1397) (by decide +kernel)⟩
def lw_privs_4 : List (MethodName × Nat) := [(⟨"AlikeUnlikeModel", "faultOf", "(I)I"⟩, 72), (⟨"AlikeUnlikeModel", "go", "(II)Z"⟩, 72), (⟨"AlikeUnlikeModel", "goFactor", "(II)Z"⟩, 72), (⟨"AlikeUnlikeModel", "takeUnit", "(I)Z"⟩, 72), (⟨"AlikeUnlikeModel", "lay", "(II)V"⟩, 72), (⟨"AlikeUnlikeModel", "goBehind", "(II)Z"⟩, 72), (⟨"AlikeUnlikeModel", "await", "(II)V"⟩, 72), (⟨"AlikeUnlikeModel", "layDown", "(I)V"⟩, 72), (⟨"AlikeUnlikeModel", "goOn", "(II)Z"⟩, 72), (⟨"AlikeUnlikeModel", "takePerson", "(J)Z"⟩, 72), (⟨"AlikeUnlikeModel", "toldOf", "(I)I"⟩, 72), (⟨"AlikeUnlikeModel", "couldCome", "()Z"⟩, 72), (⟨"AlikeUnlikeModel", "takeLaw", "(I)V"⟩, 72), (⟨"AlikeUnlikeModel", "holds", "([I[III)I"⟩, 72), (⟨"AlikeUnlikeModel", "runWho", "()I"⟩, 72), (⟨"AlikeUnlikeModel", "search", "(II)I"⟩, 72)]
theorem lw_r4 : ∀ q ∈ lw_privs_4, lw_okq q := List.forall_mem_cons.mpr ⟨lw_p48, List.forall_mem_cons.mpr ⟨lw_p49, List.forall_mem_cons.mpr ⟨lw_p50, List.forall_mem_cons.mpr ⟨lw_p51, List.forall_mem_cons.mpr ⟨lw_p52, List.forall_mem_cons.mpr ⟨lw_p53, List.forall_mem_cons.mpr ⟨lw_p54, List.forall_mem_cons.mpr ⟨lw_p55, List.forall_mem_cons.mpr ⟨lw_p56, List.forall_mem_cons.mpr ⟨lw_p57, List.forall_mem_cons.mpr ⟨lw_p58, List.forall_mem_cons.mpr ⟨lw_p59, List.forall_mem_cons.mpr ⟨lw_p60, List.forall_mem_cons.mpr ⟨lw_p61, List.forall_mem_cons.mpr ⟨lw_p62, List.forall_mem_cons.mpr ⟨lw_p63, fun _ h => absurd h List.not_mem_nil⟩⟩⟩⟩⟩⟩⟩⟩⟩⟩⟩⟩⟩⟩⟩⟩
theorem lw_p64 : lw_okq (⟨"AlikeUnlikeModel", "isDone", "(I)Z"⟩, 72) := ⟨⟨by decide +kernel, by decide +kernel⟩, List.mem_of_getElem? (i := 1033) (by decide +kernel), List.mem_of_getElem? (i := 1400) (by decide +kernel), List.mem_of_getElem? (i := 1401) (by decide +kernel)⟩
theorem lw_p65 : lw_okq (⟨"AlikeUnlikeModel", "onBox", "([I[IIII)I"⟩, 72) := ⟨⟨by decide +kernel, by decide +kernel⟩, List.mem_of_getElem? (i := 1033) (by decide +kernel), List.mem_of_getElem? (i := 1404) (by decide +kernel), List.mem_of_getElem? (i := 1405) (by decide +kernel)⟩
theorem lw_p66 : lw_okq (⟨"AlikeUnlikeModel", "multiply", "(I)V"⟩, 72) := ⟨⟨by decide +kernel, by decide +kernel⟩, List.mem_of_getElem? (i := 1033) (by decide +kernel), List.mem_of_getElem? (i := 1408) (by decide +kernel), List.mem_of_getElem? (i := 1409) (by decide +kernel)⟩
theorem lw_p67 : lw_okq (⟨"AlikeUnlikeModel", "endsOf", "(I)I"⟩, 72) := ⟨⟨by decide +kernel, by decide +kernel⟩, List.mem_of_getElem? (i := 1033) (by decide +kernel), List.mem_of_getElem? (i := 1418) (by decide +kernel), List.mem_of_getElem? (i := 1419) (by decide +kernel)⟩
theorem lw_p68 : lw_okq (⟨"AlikeUnlikeModel", "widest", "()I"⟩, 72) := ⟨⟨by decide +kernel, by decide +kernel⟩, List.mem_of_getElem? (i := 1033) (by decide +kernel), List.mem_of_getElem? (i := 1422) (by decide +kernel), List.mem_of_getElem? (i := 1423) (by decide +kernel)⟩
theorem lw_p69 : lw_okq (⟨"AlikeUnlikeModel", "boxPerson", "(I)J"⟩, 72) := ⟨⟨by decide +kernel, by decide +kernel⟩, List.mem_of_getElem? (i := 1033) (by decide +kernel), List.mem_of_getElem? (i := 1426) (by decide +kernel), List.mem_of_getElem? (i := 1427) (by decide +kernel)⟩
theorem lw_p70 : lw_okq (⟨"AlikeUnlikeModel", "push", "(III)V"⟩, 72) := ⟨⟨by decide +kernel, by decide +kernel⟩, List.mem_of_getElem? (i := 1033) (by decide +kernel), List.mem_of_getElem? (i := 1430) (by decide +kernel), List.mem_of_getElem? (i := 1431) (by decide +kernel)⟩
theorem lw_p71 : lw_okq (⟨"AlikeUnlikeModel", "isRow", "(I)Z"⟩, 72) := ⟨⟨by decide +kernel, by decide +kernel⟩, List.mem_of_getElem? (i := 1033) (by decide +kernel), List.mem_of_getElem? (i := 1456) (by decide +kernel), List.mem_of_getElem? (i := 1457) (by decide +kernel)⟩
theorem lw_p72 : lw_okq (⟨"AlikeUnlikeModel", "endOf", "(I)I"⟩, 72) := ⟨⟨by decide +kernel, by decide +kernel⟩, List.mem_of_getElem? (i := 1033) (by decide +kernel), List.mem_of_getElem? (i := 1460) (by decide +kernel), List.mem_of_getElem? (i := 1461) (by decide +kernel)⟩
theorem lw_p73 : lw_okq (⟨"AlikeUnlikeModel", "takeRow", "(I)V"⟩, 72) := ⟨⟨by decide +kernel, by decide +kernel⟩, List.mem_of_getElem? (i := 1033) (by decide +kernel), List.mem_of_getElem? (i := 1464) (by decide +kernel), List.mem_of_getElem? (i := 1465) (by decide +kernel)⟩
theorem lw_p74 : lw_okq (⟨"AlikeUnlikeModel", "groupOf", "(III)I"⟩, 72) := ⟨⟨by decide +kernel, by decide +kernel⟩, List.mem_of_getElem? (i := 1033) (by decide +kernel), List.mem_of_getElem? (i := 1475) (by decide +kernel), List.mem_of_getElem? (i := 1476) (by decide +kernel)⟩
theorem lw_p75 : lw_okq (⟨"AlikeUnlikeModel", "runAll", "()V"⟩, 72) := ⟨⟨by decide +kernel, by decide +kernel⟩, List.mem_of_getElem? (i := 1033) (by decide +kernel), List.mem_of_getElem? (i := 1479) (by decide +kernel), List.mem_of_getElem? (i := 1480) (by decide +kernel)⟩
theorem lw_p76 : lw_okq (⟨"AlikeUnlikeModel", "gapRefusal", "(IIIZ)I"⟩, 72) := ⟨⟨by decide +kernel, by decide +kernel⟩, List.mem_of_getElem? (i := 1033) (by decide +kernel), List.mem_of_getElem? (i := 1487) (by decide +kernel), List.mem_of_getElem? (i := 1488) (by decide +kernel)⟩
theorem lw_p77 : lw_okq (⟨"AlikeUnlikeModel", "takeGroups", "(III)V"⟩, 72) := ⟨⟨by decide +kernel, by decide +kernel⟩, List.mem_of_getElem? (i := 1033) (by decide +kernel), List.mem_of_getElem? (i := 1491) (by decide +kernel), List.mem_of_getElem? (i := 1492) (by decide +kernel)⟩
theorem lw_p78 : lw_okq (⟨"AlikeUnlikeModel", "countGroup", "(IIIZ)V"⟩, 72) := ⟨⟨by decide +kernel, by decide +kernel⟩, List.mem_of_getElem? (i := 1033) (by decide +kernel), List.mem_of_getElem? (i := 1495) (by decide +kernel), List.mem_of_getElem? (i := 1496) (by decide +kernel)⟩
theorem lw_p79 : lw_okq (⟨"AlikeUnlikeModel", "whereOf", "(I)I"⟩, 72) := ⟨⟨by decide +kernel, by decide +kernel⟩, List.mem_of_getElem? (i := 1033) (by decide +kernel), List.mem_of_getElem? (i := 1520) (by decide +kernel), List.mem_of_getElem? (i := 1521) (by decide +kernel)⟩
def lw_privs_5 : List (MethodName × Nat) := [(⟨"AlikeUnlikeModel", "isDone", "(I)Z"⟩, 72), (⟨"AlikeUnlikeModel", "onBox", "([I[IIII)I"⟩, 72), (⟨"AlikeUnlikeModel", "multiply", "(I)V"⟩, 72), (⟨"AlikeUnlikeModel", "endsOf", "(I)I"⟩, 72), (⟨"AlikeUnlikeModel", "widest", "()I"⟩, 72), (⟨"AlikeUnlikeModel", "boxPerson", "(I)J"⟩, 72), (⟨"AlikeUnlikeModel", "push", "(III)V"⟩, 72), (⟨"AlikeUnlikeModel", "isRow", "(I)Z"⟩, 72), (⟨"AlikeUnlikeModel", "endOf", "(I)I"⟩, 72), (⟨"AlikeUnlikeModel", "takeRow", "(I)V"⟩, 72), (⟨"AlikeUnlikeModel", "groupOf", "(III)I"⟩, 72), (⟨"AlikeUnlikeModel", "runAll", "()V"⟩, 72), (⟨"AlikeUnlikeModel", "gapRefusal", "(IIIZ)I"⟩, 72), (⟨"AlikeUnlikeModel", "takeGroups", "(III)V"⟩, 72), (⟨"AlikeUnlikeModel", "countGroup", "(IIIZ)V"⟩, 72), (⟨"AlikeUnlikeModel", "whereOf", "(I)I"⟩, 72)]
theorem lw_r5 : ∀ q ∈ lw_privs_5, lw_okq q := List.forall_mem_cons.mpr ⟨lw_p64, List.forall_mem_cons.mpr ⟨lw_p65, List.forall_mem_cons.mpr ⟨lw_p66, List.forall_mem_cons.mpr ⟨lw_p67, List.forall_mem_cons.mpr ⟨lw_p68, List.forall_mem_cons.mpr ⟨lw_p69, List.forall_mem_cons.mpr ⟨lw_p70, List.forall_mem_cons.mpr ⟨lw_p71, List.forall_mem_cons.mpr ⟨lw_p72, List.forall_mem_cons.mpr ⟨lw_p73, List.forall_mem_cons.mpr ⟨lw_p74, List.forall_mem_cons.mpr ⟨lw_p75, List.forall_mem_cons.mpr ⟨lw_p76, List.forall_mem_cons.mpr ⟨lw_p77, List.forall_mem_cons.mpr ⟨lw_p78, List.forall_mem_cons.mpr ⟨lw_p79, fun _ h => absurd h List.not_mem_nil⟩⟩⟩⟩⟩⟩⟩⟩⟩⟩⟩⟩⟩⟩⟩⟩
theorem lw_p80 : lw_okq (⟨"AlikeUnlikeModel", "findWhere", "()V"⟩, 72) := ⟨⟨by decide +kernel, by decide +kernel⟩, List.mem_of_getElem? (i := 1033) (by decide +kernel), List.mem_of_getElem? (i := 1524) (by decide +kernel), List.mem_of_getElem? (i := 1525) (by decide +kernel)⟩
theorem lw_p81 : lw_okq (⟨"AlikeUnlikeModel", "isNought", "(III)Z"⟩, 72) := ⟨⟨by decide +kernel, by decide +kernel⟩, List.mem_of_getElem? (i := 1033) (by decide +kernel), List.mem_of_getElem? (i := 1543) (by decide +kernel), List.mem_of_getElem? (i := 1544) (by decide +kernel)⟩
theorem lw_p82 : lw_okq (⟨"AlikeUnlikeModel", "numberMany", "()I"⟩, 72) := ⟨⟨by decide +kernel, by decide +kernel⟩, List.mem_of_getElem? (i := 1033) (by decide +kernel), List.mem_of_getElem? (i := 1547) (by decide +kernel), List.mem_of_getElem? (i := 1548) (by decide +kernel)⟩
theorem lw_p83 : lw_okq (⟨"AlikeUnlikeModel", "numberAt", "(I)I"⟩, 72) := ⟨⟨by decide +kernel, by decide +kernel⟩, List.mem_of_getElem? (i := 1033) (by decide +kernel), List.mem_of_getElem? (i := 1551) (by decide +kernel), List.mem_of_getElem? (i := 1552) (by decide +kernel)⟩
theorem lw_p84 : lw_okq (⟨"AlikeUnlikeModel", "isRefused", "(I)Z"⟩, 72) := ⟨⟨by decide +kernel, by decide +kernel⟩, List.mem_of_getElem? (i := 1033) (by decide +kernel), List.mem_of_getElem? (i := 1561) (by decide +kernel), List.mem_of_getElem? (i := 1562) (by decide +kernel)⟩
theorem lw_p85 : lw_okq (⟨"AlikeUnlikeModel", "leastPrice", "()I"⟩, 72) := ⟨⟨by decide +kernel, by decide +kernel⟩, List.mem_of_getElem? (i := 1033) (by decide +kernel), List.mem_of_getElem? (i := 1565) (by decide +kernel), List.mem_of_getElem? (i := 1566) (by decide +kernel)⟩
theorem lw_p86 : lw_okq (⟨"AlikeUnlikeModel", "mayAt", "(I)I"⟩, 72) := ⟨⟨by decide +kernel, by decide +kernel⟩, List.mem_of_getElem? (i := 1033) (by decide +kernel), List.mem_of_getElem? (i := 1569) (by decide +kernel), List.mem_of_getElem? (i := 1570) (by decide +kernel)⟩
theorem lw_p87 : lw_okq (⟨"AlikeUnlikeModel", "countOf", "(I)I"⟩, 72) := ⟨⟨by decide +kernel, by decide +kernel⟩, List.mem_of_getElem? (i := 1033) (by decide +kernel), List.mem_of_getElem? (i := 1584) (by decide +kernel), List.mem_of_getElem? (i := 1585) (by decide +kernel)⟩
theorem lw_p88 : lw_okq (⟨"AlikeUnlikeModel", "tell", "(J)V"⟩, 72) := ⟨⟨by decide +kernel, by decide +kernel⟩, List.mem_of_getElem? (i := 1033) (by decide +kernel), List.mem_of_getElem? (i := 1593) (by decide +kernel), List.mem_of_getElem? (i := 1594) (by decide +kernel)⟩
theorem lw_p89 : lw_okq (⟨"AlikeUnlikeModel", "tellWho", "()V"⟩, 72) := ⟨⟨by decide +kernel, by decide +kernel⟩, List.mem_of_getElem? (i := 1033) (by decide +kernel), List.mem_of_getElem? (i := 1598) (by decide +kernel), List.mem_of_getElem? (i := 1599) (by decide +kernel)⟩
def lw_privs_6 : List (MethodName × Nat) := [(⟨"AlikeUnlikeModel", "findWhere", "()V"⟩, 72), (⟨"AlikeUnlikeModel", "isNought", "(III)Z"⟩, 72), (⟨"AlikeUnlikeModel", "numberMany", "()I"⟩, 72), (⟨"AlikeUnlikeModel", "numberAt", "(I)I"⟩, 72), (⟨"AlikeUnlikeModel", "isRefused", "(I)Z"⟩, 72), (⟨"AlikeUnlikeModel", "leastPrice", "()I"⟩, 72), (⟨"AlikeUnlikeModel", "mayAt", "(I)I"⟩, 72), (⟨"AlikeUnlikeModel", "countOf", "(I)I"⟩, 72), (⟨"AlikeUnlikeModel", "tell", "(J)V"⟩, 72), (⟨"AlikeUnlikeModel", "tellWho", "()V"⟩, 72)]
theorem lw_r6 : ∀ q ∈ lw_privs_6, lw_okq q := List.forall_mem_cons.mpr ⟨lw_p80, List.forall_mem_cons.mpr ⟨lw_p81, List.forall_mem_cons.mpr ⟨lw_p82, List.forall_mem_cons.mpr ⟨lw_p83, List.forall_mem_cons.mpr ⟨lw_p84, List.forall_mem_cons.mpr ⟨lw_p85, List.forall_mem_cons.mpr ⟨lw_p86, List.forall_mem_cons.mpr ⟨lw_p87, List.forall_mem_cons.mpr ⟨lw_p88, List.forall_mem_cons.mpr ⟨lw_p89, fun _ h => absurd h List.not_mem_nil⟩⟩⟩⟩⟩⟩⟩⟩⟩⟩
def lw_privs : List (MethodName × Nat) := lw_privs_1 ++ (lw_privs_2 ++ (lw_privs_3 ++ (lw_privs_4 ++ (lw_privs_5 ++ (lw_privs_6)))))
def lw_tbl : List Cond := k2_sels lw_privs ++ tables_1
theorem lw_privs_ok : ∀ q ∈ lw_privs, lw_okq q := by
  show ∀ q ∈ lw_privs_1 ++ (lw_privs_2 ++ (lw_privs_3 ++ (lw_privs_4 ++ (lw_privs_5 ++ (lw_privs_6))))), lw_okq q
  exact List.forall_mem_append.mpr ⟨lw_r1, List.forall_mem_append.mpr ⟨lw_r2, List.forall_mem_append.mpr ⟨lw_r3, List.forall_mem_append.mpr ⟨lw_r4, List.forall_mem_append.mpr ⟨lw_r5, lw_r6⟩⟩⟩⟩⟩
-- ===== end of PART A; then your names; then what follows =====
end
section
def RX0 : String := "AlikeUnlike$Askings"
def TX0 : u_T := fun k => match k with
  | 0 => ("AlikeUnlike$Askings", "good", "I", false)
  | 1 => ("AlikeUnlike$Askings", "bad", "I", false)
  | 2 => ("AlikeUnlike$Askings", "otherGood", "I", false)
  | 3 => ("AlikeUnlike$Askings", "otherBad", "I", false)
  | 4 => ("AlikeUnlike$Askings", "most", "I", false)
  | _ => ("AlikeUnlike$Askings", "fewest", "I", false)
def tyX0 : Nat → FieldType := fun k => match k with
  | 0 => .int
  | 1 => .int
  | 2 => .int
  | 3 => .int
  | 4 => .int
  | _ => .int
theorem nmX0 : ∀ a, a < 6 → ∀ b, b < 6 → a ≠ b → (TX0 a).2.1 ≠ (TX0 b).2.1 := by decide +kernel
theorem tyX0_ok : ∀ k, k < 6 → parseFieldDescriptor (TX0 k).2.2.1 = some (tyX0 k) := by decide +kernel
abbrev cX0_init : ByteArray := prog_2_method_1_code
def yX0_init : MethodName := ⟨RX0, "<init>", "()V"⟩
abbrev cX0_weigh : ByteArray := prog_2_method_2_code
def yX0_weigh : MethodName := ⟨RX0, "weigh", "(IIIII)V"⟩
abbrev cX0_weighOthers : ByteArray := prog_2_method_3_code
def yX0_weighOthers : MethodName := ⟨RX0, "weighOthers", "(III)V"⟩
abbrev cX0_met : ByteArray := prog_2_method_4_code
def yX0_met : MethodName := ⟨RX0, "met", "(IIII)I"⟩
abbrev cX0_isSameShare : ByteArray := prog_2_method_5_code
def yX0_isSameShare : MethodName := ⟨RX0, "isSameShare", "(IIII)Z"⟩
abbrev cX0_answered : ByteArray := prog_2_method_6_code
def yX0_answered : MethodName := ⟨RX0, "answered", "(I)I"⟩
def RX1 : String := "AlikeUnlike$Came"
def TX1 : u_T := fun k => match k with
  | 0 => ("AlikeUnlike$Came", "people", "[LAlikeUnlike$Person;", true)
  | 1 => ("AlikeUnlike$Came", "outs", "[I", true)
  | 2 => ("AlikeUnlike$Came", "runs", "[I", true)
  | 3 => ("AlikeUnlike$Came", "size", "I", false)
  | 4 => ("AlikeUnlike$Came", "allAt", "[I", true)
  | 5 => ("AlikeUnlike$Came", "letAt", "[I", true)
  | 6 => ("AlikeUnlike$Came", "all", "I", false)
  | 7 => ("AlikeUnlike$Came", "let", "I", false)
  | 8 => ("AlikeUnlike$Came", "field", "I", false)
  | 9 => ("AlikeUnlike$Came", "least", "I", false)
  | 10 => ("AlikeUnlike$Came", "greatest", "I", false)
  | 11 => ("AlikeUnlike$Came", "above", "J", false)
  | 12 => ("AlikeUnlike$Came", "below", "J", false)
  | _ => ("AlikeUnlike$Came", "paid", "I", false)
def tyX1 : Nat → FieldType := fun k => match k with
  | 0 => .array (.object "AlikeUnlike$Person")
  | 1 => .array .int
  | 2 => .array .int
  | 3 => .int
  | 4 => .array .int
  | 5 => .array .int
  | 6 => .int
  | 7 => .int
  | 8 => .int
  | 9 => .int
  | 10 => .int
  | 11 => .long
  | 12 => .long
  | _ => .int
theorem nmX1 : ∀ a, a < 14 → ∀ b, b < 14 → a ≠ b → (TX1 a).2.1 ≠ (TX1 b).2.1 := by decide +kernel
theorem tyX1_ok : ∀ k, k < 14 → parseFieldDescriptor (TX1 k).2.2.1 = some (tyX1 k) := by decide +kernel
abbrev cX1_init : ByteArray := prog_3_method_1_code
def yX1_init : MethodName := ⟨RX1, "<init>", "()V"⟩
abbrev cX1_size : ByteArray := prog_3_method_2_code
def yX1_size : MethodName := ⟨RX1, "size", "()I"⟩
abbrev cX1_add : ByteArray := prog_3_method_3_code
def yX1_add : MethodName := ⟨RX1, "add", "(LAlikeUnlike$Person;II)V"⟩
abbrev cX1_runAll : ByteArray := prog_3_method_4_code
def yX1_runAll : MethodName := ⟨RX1, "runAll", "(LAlikeUnlike$Walker;LAlikeUnlike$Script;)V"⟩
abbrev cX1_person : ByteArray := prog_3_method_5_code
def yX1_person : MethodName := ⟨RX1, "person", "(I)LAlikeUnlike$Person;"⟩
abbrev cX1_isRowHere : ByteArray := prog_3_method_6_code
def yX1_isRowHere : MethodName := ⟨RX1, "isRowHere", "(I)Z"⟩
abbrev cX1_ended : ByteArray := prog_3_method_7_code
def yX1_ended : MethodName := ⟨RX1, "ended", "(I)I"⟩
abbrev cX1_number : ByteArray := prog_3_method_8_code
def yX1_number : MethodName := ⟨RX1, "number", "(II)I"⟩
abbrev cX1_isWhole : ByteArray := prog_3_method_9_code
def yX1_isWhole : MethodName := ⟨RX1, "isWhole", "(I)Z"⟩
abbrev cX1_copyTo : ByteArray := prog_3_method_10_code
def yX1_copyTo : MethodName := ⟨RX1, "copyTo", "(ILAlikeUnlike$Person;)V"⟩
abbrev cX1_folded : ByteArray := prog_3_method_11_code
def yX1_folded : MethodName := ⟨RX1, "folded", "(J)J"⟩
abbrev cX1_members : ByteArray := prog_3_method_12_code
def yX1_members : MethodName := ⟨RX1, "members", "(III)I"⟩
abbrev cX1_isAs : ByteArray := prog_3_method_13_code
def yX1_isAs : MethodName := ⟨RX1, "isAs", "(II)Z"⟩
abbrev cX1_gapAbove : ByteArray := prog_3_method_14_code
def yX1_gapAbove : MethodName := ⟨RX1, "gapAbove", "(III)J"⟩
abbrev cX1_gapBelow : ByteArray := prog_3_method_15_code
def yX1_gapBelow : MethodName := ⟨RX1, "gapBelow", "(III)J"⟩
abbrev cX1_dealsAsGreat : ByteArray := prog_3_method_16_code
def yX1_dealsAsGreat : MethodName := ⟨RX1, "dealsAsGreat", "(III)J"⟩
abbrev cX1_findGreatestGap : ByteArray := prog_3_method_17_code
def yX1_findGreatestGap : MethodName := ⟨RX1, "findGreatestGap", "(LAlikeUnlike$Form;)V"⟩
abbrev cX1_tally : ByteArray := prog_3_method_18_code
def yX1_tally : MethodName := ⟨RX1, "tally", "(I)V"⟩
abbrev cX1_lookAlong : ByteArray := prog_3_method_19_code
def yX1_lookAlong : MethodName := ⟨RX1, "lookAlong", "(III)V"⟩
abbrev cX1_keepIfGreater : ByteArray := prog_3_method_20_code
def yX1_keepIfGreater : MethodName := ⟨RX1, "keepIfGreater", "(IIIJJ)V"⟩
abbrev cX1_whereTold : ByteArray := prog_3_method_21_code
def yX1_whereTold : MethodName := ⟨RX1, "whereTold", "(I)I"⟩
def RX2 : String := "AlikeUnlike$Cheapest"
def TX2 : u_T := fun k => match k with
  | 0 => ("AlikeUnlike$Cheapest", "tried", "LAlikeUnlike$Person;", true)
  | 1 => ("AlikeUnlike$Cheapest", "best", "LAlikeUnlike$Person;", true)
  | _ => ("AlikeUnlike$Cheapest", "bestPrice", "I", false)
def tyX2 : Nat → FieldType := fun k => match k with
  | 0 => .object "AlikeUnlike$Person"
  | 1 => .object "AlikeUnlike$Person"
  | _ => .int
theorem nmX2 : ∀ a, a < 3 → ∀ b, b < 3 → a ≠ b → (TX2 a).2.1 ≠ (TX2 b).2.1 := by decide +kernel
theorem tyX2_ok : ∀ k, k < 3 → parseFieldDescriptor (TX2 k).2.2.1 = some (tyX2 k) := by decide +kernel
abbrev cX2_init : ByteArray := prog_4_method_1_code
def yX2_init : MethodName := ⟨RX2, "<init>", "()V"⟩
abbrev cX2_find : ByteArray := prog_4_method_2_code
def yX2_find : MethodName := ⟨RX2, "find", "(LAlikeUnlike$Form;LAlikeUnlike$Script;LAlikeUnlike$Walker;LAlikeUnlike$Person;)I"⟩
abbrev cX2_number : ByteArray := prog_4_method_3_code
def yX2_number : MethodName := ⟨RX2, "number", "(I)I"⟩
abbrev cX2_goThrough : ByteArray := prog_4_method_4_code
def yX2_goThrough : MethodName := ⟨RX2, "goThrough", "(LAlikeUnlike$Form;LAlikeUnlike$Script;LAlikeUnlike$Walker;LAlikeUnlike$Person;II)V"⟩
def RX3 : String := "AlikeUnlike$Form"
def TX3 : u_T := fun k => match k with
  | 0 => ("AlikeUnlike$Form", "told", "[I", true)
  | 1 => ("AlikeUnlike$Form", "laws", "[LAlikeUnlike$Script;", true)
  | _ => ("AlikeUnlike$Form", "lawCount", "I", false)
def tyX3 : Nat → FieldType := fun k => match k with
  | 0 => .array .int
  | 1 => .array (.object "AlikeUnlike$Script")
  | _ => .int
theorem nmX3 : ∀ a, a < 3 → ∀ b, b < 3 → a ≠ b → (TX3 a).2.1 ≠ (TX3 b).2.1 := by decide +kernel
theorem tyX3_ok : ∀ k, k < 3 → parseFieldDescriptor (TX3 k).2.2.1 = some (tyX3 k) := by decide +kernel
abbrev cX3_init : ByteArray := prog_5_method_1_code
def yX3_init : MethodName := ⟨RX3, "<init>", "()V"⟩
abbrev cX3_told : ByteArray := prog_5_method_2_code
def yX3_told : MethodName := ⟨RX3, "told", "(II)I"⟩
abbrev cX3_tell : ByteArray := prog_5_method_3_code
def yX3_tell : MethodName := ⟨RX3, "tell", "(III)V"⟩
abbrev cX3_fits : ByteArray := prog_5_method_4_code
def yX3_fits : MethodName := ⟨RX3, "fits", "(III)Z"⟩
abbrev cX3_allows : ByteArray := prog_5_method_5_code
def yX3_allows : MethodName := ⟨RX3, "allows", "(III)Z"⟩
abbrev cX3_otherMays : ByteArray := prog_5_method_6_code
def yX3_otherMays : MethodName := ⟨RX3, "otherMays", "(I)I"⟩
abbrev cX3_isOfKind : ByteArray := prog_5_method_7_code
def yX3_isOfKind : MethodName := ⟨RX3, "isOfKind", "(II)Z"⟩
abbrev cX3_counts : ByteArray := prog_5_method_8_code
def yX3_counts : MethodName := ⟨RX3, "counts", "(I)Z"⟩
abbrev cX3_changes : ByteArray := prog_5_method_9_code
def yX3_changes : MethodName := ⟨RX3, "changes", "(I)Z"⟩
abbrev cX3_isInSpan : ByteArray := prog_5_method_10_code
def yX3_isInSpan : MethodName := ⟨RX3, "isInSpan", "(II)Z"⟩
abbrev cX3_laws : ByteArray := prog_5_method_11_code
def yX3_laws : MethodName := ⟨RX3, "laws", "()I"⟩
abbrev cX3_addLaw : ByteArray := prog_5_method_12_code
def yX3_addLaw : MethodName := ⟨RX3, "addLaw", "(LAlikeUnlike$Page;)V"⟩
abbrev cX3_dropLaw : ByteArray := prog_5_method_13_code
def yX3_dropLaw : MethodName := ⟨RX3, "dropLaw", "()V"⟩
abbrev cX3_isInSpans : ByteArray := prog_5_method_14_code
def yX3_isInSpans : MethodName := ⟨RX3, "isInSpans", "(LAlikeUnlike$Person;)Z"⟩
abbrev cX3_keepsLaws : ByteArray := prog_5_method_15_code
def yX3_keepsLaws : MethodName := ⟨RX3, "keepsLaws", "(LAlikeUnlike$Person;LAlikeUnlike$Walker;)Z"⟩
abbrev cX3_barsBox : ByteArray := prog_5_method_16_code
def yX3_barsBox : MethodName := ⟨RX3, "barsBox", "(LAlikeUnlike$Spanner;[II)Z"⟩
abbrev cX3_folded : ByteArray := prog_5_method_17_code
def yX3_folded : MethodName := ⟨RX3, "folded", "(J)J"⟩
def RX4 : String := "AlikeUnlike$Mender"
def TX4 : u_T := fun k => match k with
  | 0 => ("AlikeUnlike$Mender", "rows", "[I", true)
  | 1 => ("AlikeUnlike$Mender", "size", "I", false)
  | 2 => ("AlikeUnlike$Mender", "firstSize", "I", false)
  | 3 => ("AlikeUnlike$Mender", "place", "I", false)
  | 4 => ("AlikeUnlike$Mender", "value", "I", false)
  | _ => ("AlikeUnlike$Mender", "change", "I", false)
def tyX4 : Nat → FieldType := fun k => match k with
  | 0 => .array .int
  | 1 => .int
  | 2 => .int
  | 3 => .int
  | 4 => .int
  | _ => .int
theorem nmX4 : ∀ a, a < 6 → ∀ b, b < 6 → a ≠ b → (TX4 a).2.1 ≠ (TX4 b).2.1 := by decide +kernel
theorem tyX4_ok : ∀ k, k < 6 → parseFieldDescriptor (TX4 k).2.2.1 = some (tyX4 k) := by decide +kernel
abbrev cX4_init : ByteArray := prog_6_method_1_code
def yX4_init : MethodName := ⟨RX4, "<init>", "()V"⟩
abbrev cX4_find : ByteArray := prog_6_method_2_code
def yX4_find : MethodName := ⟨RX4, "find", "(LAlikeUnlike$Script;LAlikeUnlike$Walker;LAlikeUnlike$Came;III)V"⟩
abbrev cX4_found : ByteArray := prog_6_method_3_code
def yX4_found : MethodName := ⟨RX4, "found", "(I)I"⟩
abbrev cX4_keep : ByteArray := prog_6_method_4_code
def yX4_keep : MethodName := ⟨RX4, "keep", "(III)V"⟩
abbrev cX4_gather : ByteArray := prog_6_method_5_code
def yX4_gather : MethodName := ⟨RX4, "gather", "(LAlikeUnlike$Came;II)V"⟩
abbrev cX4_tryNumber : ByteArray := prog_6_method_6_code
def yX4_tryNumber : MethodName := ⟨RX4, "tryNumber", "(LAlikeUnlike$Script;LAlikeUnlike$Walker;LAlikeUnlike$Came;II)V"⟩
abbrev cX4_isEven : ByteArray := prog_6_method_7_code
def yX4_isEven : MethodName := ⟨RX4, "isEven", "(LAlikeUnlike$Script;LAlikeUnlike$Walker;LAlikeUnlike$Came;)Z"⟩
def RX5 : String := "AlikeUnlike$Page"
def TX5 : u_T := fun k => match k with
  | 0 => ("AlikeUnlike$Page", "letters", "[I", true)
  | 1 => ("AlikeUnlike$Page", "size", "I", false)
  | 2 => ("AlikeUnlike$Page", "sort", "I", false)
  | 3 => ("AlikeUnlike$Page", "next", "I", false)
  | 4 => ("AlikeUnlike$Page", "open", "I", false)
  | 5 => ("AlikeUnlike$Page", "units", "I", false)
  | 6 => ("AlikeUnlike$Page", "isRightSide", "Z", false)
  | 7 => ("AlikeUnlike$Page", "isLineStart", "Z", false)
  | _ => ("AlikeUnlike$Page", "isLastLine", "Z", false)
def tyX5 : Nat → FieldType := fun k => match k with
  | 0 => .array .int
  | 1 => .int
  | 2 => .int
  | 3 => .int
  | 4 => .int
  | 5 => .int
  | 6 => .boolean
  | 7 => .boolean
  | _ => .boolean
theorem nmX5 : ∀ a, a < 9 → ∀ b, b < 9 → a ≠ b → (TX5 a).2.1 ≠ (TX5 b).2.1 := by decide +kernel
theorem tyX5_ok : ∀ k, k < 9 → parseFieldDescriptor (TX5 k).2.2.1 = some (tyX5 k) := by decide +kernel
abbrev cX5_init : ByteArray := prog_7_method_1_code
def yX5_init : MethodName := ⟨RX5, "<init>", "()V"⟩
abbrev cX5_lettersIn : ByteArray := prog_7_method_2_code
def yX5_lettersIn : MethodName := ⟨RX5, "lettersIn", "(J)I"⟩
abbrev cX5_letterOf : ByteArray := prog_7_method_3_code
def yX5_letterOf : MethodName := ⟨RX5, "letterOf", "(JI)I"⟩
abbrev cX5_append : ByteArray := prog_7_method_4_code
def yX5_append : MethodName := ⟨RX5, "append", "(JI)V"⟩
abbrev cX5_clear : ByteArray := prog_7_method_5_code
def yX5_clear : MethodName := ⟨RX5, "clear", "()V"⟩
abbrev cX5_size : ByteArray := prog_7_method_6_code
def yX5_size : MethodName := ⟨RX5, "size", "()I"⟩
abbrev cX5_letter : ByteArray := prog_7_method_7_code
def yX5_letter : MethodName := ⟨RX5, "letter", "(I)I"⟩
abbrev cX5_folded : ByteArray := prog_7_method_8_code
def yX5_folded : MethodName := ⟨RX5, "folded", "(J)J"⟩
abbrev cX5_isWhole : ByteArray := prog_7_method_9_code
def yX5_isWhole : MethodName := ⟨RX5, "isWhole", "(I)Z"⟩
abbrev cX5_firstFault : ByteArray := prog_7_method_10_code
def yX5_firstFault : MethodName := ⟨RX5, "firstFault", "(I)I"⟩
abbrev cX5_takes : ByteArray := prog_7_method_11_code
def yX5_takes : MethodName := ⟨RX5, "takes", "(I)Z"⟩
abbrev cX5_goesOn : ByteArray := prog_7_method_12_code
def yX5_goesOn : MethodName := ⟨RX5, "goesOn", "(I)Z"⟩
abbrev cX5_takesFactor : ByteArray := prog_7_method_13_code
def yX5_takesFactor : MethodName := ⟨RX5, "takesFactor", "(I)Z"⟩
abbrev cX5_takesUnit : ByteArray := prog_7_method_14_code
def yX5_takesUnit : MethodName := ⟨RX5, "takesUnit", "(I)Z"⟩
abbrev cX5_takesBehindUnit : ByteArray := prog_7_method_15_code
def yX5_takesBehindUnit : MethodName := ⟨RX5, "takesBehindUnit", "(I)Z"⟩
abbrev cX5_takesBehindFactor : ByteArray := prog_7_method_16_code
def yX5_takesBehindFactor : MethodName := ⟨RX5, "takesBehindFactor", "(I)Z"⟩
def RX6 : String := "AlikeUnlike$Person"
def TX6 : u_T := fun k => match k with
  | _ => ("AlikeUnlike$Person", "numbers", "[I", true)
def tyX6 : Nat → FieldType := fun k => match k with
  | _ => .array .int
theorem nmX6 : ∀ a, a < 1 → ∀ b, b < 1 → a ≠ b → (TX6 a).2.1 ≠ (TX6 b).2.1 := by decide +kernel
theorem tyX6_ok : ∀ k, k < 1 → parseFieldDescriptor (TX6 k).2.2.1 = some (tyX6 k) := by decide +kernel
abbrev cX6_init : ByteArray := prog_8_method_1_code
def yX6_init : MethodName := ⟨RX6, "<init>", "()V"⟩
abbrev cX6_read : ByteArray := prog_8_method_2_code
def yX6_read : MethodName := ⟨RX6, "read", "(J)Z"⟩
abbrev cX6_told : ByteArray := prog_8_method_3_code
def yX6_told : MethodName := ⟨RX6, "told", "()J"⟩
abbrev cX6_number : ByteArray := prog_8_method_4_code
def yX6_number : MethodName := ⟨RX6, "number", "(I)I"⟩
abbrev cX6_put : ByteArray := prog_8_method_5_code
def yX6_put : MethodName := ⟨RX6, "put", "(II)V"⟩
abbrev cX6_copy : ByteArray := prog_8_method_6_code
def yX6_copy : MethodName := ⟨RX6, "copy", "(LAlikeUnlike$Person;)V"⟩
abbrev cX6_isWhole : ByteArray := prog_8_method_7_code
def yX6_isWhole : MethodName := ⟨RX6, "isWhole", "()Z"⟩
def RX7 : String := "AlikeUnlike$Script"
def TX7 : u_T := fun k => match k with
  | 0 => ("AlikeUnlike$Script", "codes", "[I", true)
  | 1 => ("AlikeUnlike$Script", "numbers", "[I", true)
  | 2 => ("AlikeUnlike$Script", "held", "[I", true)
  | 3 => ("AlikeUnlike$Script", "size", "I", false)
  | 4 => ("AlikeUnlike$Script", "numberCount", "I", false)
  | 5 => ("AlikeUnlike$Script", "lineCount", "I", false)
  | 6 => ("AlikeUnlike$Script", "lineStart", "I", false)
  | _ => ("AlikeUnlike$Script", "holding", "I", false)
def tyX7 : Nat → FieldType := fun k => match k with
  | 0 => .array .int
  | 1 => .array .int
  | 2 => .array .int
  | 3 => .int
  | 4 => .int
  | 5 => .int
  | 6 => .int
  | _ => .int
theorem nmX7 : ∀ a, a < 8 → ∀ b, b < 8 → a ≠ b → (TX7 a).2.1 ≠ (TX7 b).2.1 := by decide +kernel
theorem tyX7_ok : ∀ k, k < 8 → parseFieldDescriptor (TX7 k).2.2.1 = some (tyX7 k) := by decide +kernel
abbrev cX7_init : ByteArray := prog_9_method_1_code
def yX7_init : MethodName := ⟨RX7, "<init>", "()V"⟩
abbrev cX7_write : ByteArray := prog_9_method_2_code
def yX7_write : MethodName := ⟨RX7, "write", "(LAlikeUnlike$Page;)V"⟩
abbrev cX7_take : ByteArray := prog_9_method_3_code
def yX7_take : MethodName := ⟨RX7, "take", "(II)V"⟩
abbrev cX7_takeDigit : ByteArray := prog_9_method_4_code
def yX7_takeDigit : MethodName := ⟨RX7, "takeDigit", "(II)V"⟩
abbrev cX7_rank : ByteArray := prog_9_method_5_code
def yX7_rank : MethodName := ⟨RX7, "rank", "(I)I"⟩
abbrev cX7_add : ByteArray := prog_9_method_6_code
def yX7_add : MethodName := ⟨RX7, "add", "(I)V"⟩
abbrev cX7_hold : ByteArray := prog_9_method_7_code
def yX7_hold : MethodName := ⟨RX7, "hold", "(I)V"⟩
abbrev cX7_release : ByteArray := prog_9_method_8_code
def yX7_release : MethodName := ⟨RX7, "release", "(I)V"⟩
abbrev cX7_size : ByteArray := prog_9_method_9_code
def yX7_size : MethodName := ⟨RX7, "size", "()I"⟩
abbrev cX7_code : ByteArray := prog_9_method_10_code
def yX7_code : MethodName := ⟨RX7, "code", "(I)I"⟩
abbrev cX7_lines : ByteArray := prog_9_method_11_code
def yX7_lines : MethodName := ⟨RX7, "lines", "()I"⟩
abbrev cX7_numbers : ByteArray := prog_9_method_12_code
def yX7_numbers : MethodName := ⟨RX7, "numbers", "()I"⟩
abbrev cX7_number : ByteArray := prog_9_method_13_code
def yX7_number : MethodName := ⟨RX7, "number", "(I)I"⟩
abbrev cX7_putNumber : ByteArray := prog_9_method_14_code
def yX7_putNumber : MethodName := ⟨RX7, "putNumber", "(II)V"⟩
def RX8 : String := "AlikeUnlike$Search"
def TX8 : u_T := fun k => match k with
  | 0 => ("AlikeUnlike$Search", "spans", "[I", true)
  | 1 => ("AlikeUnlike$Search", "isShared", "[Z", true)
  | 2 => ("AlikeUnlike$Search", "more", "I", false)
  | 3 => ("AlikeUnlike$Search", "top", "I", false)
  | 4 => ("AlikeUnlike$Search", "looked", "I", false)
  | 5 => ("AlikeUnlike$Search", "cuts", "I", false)
  | 6 => ("AlikeUnlike$Search", "settled", "I", false)
  | 7 => ("AlikeUnlike$Search", "first", "J", false)
  | _ => ("AlikeUnlike$Search", "second", "J", false)
def tyX8 : Nat → FieldType := fun k => match k with
  | 0 => .array .int
  | 1 => .array .boolean
  | 2 => .int
  | 3 => .int
  | 4 => .int
  | 5 => .int
  | 6 => .int
  | 7 => .long
  | _ => .long
theorem nmX8 : ∀ a, a < 9 → ∀ b, b < 9 → a ≠ b → (TX8 a).2.1 ≠ (TX8 b).2.1 := by decide +kernel
theorem tyX8_ok : ∀ k, k < 9 → parseFieldDescriptor (TX8 k).2.2.1 = some (tyX8 k) := by decide +kernel
abbrev cX8_init : ByteArray := prog_10_method_1_code
def yX8_init : MethodName := ⟨RX8, "<init>", "()V"⟩
abbrev cX8_over : ByteArray := prog_10_method_2_code
def yX8_over : MethodName := ⟨RX8, "over", "(LAlikeUnlike$Form;LAlikeUnlike$Script;LAlikeUnlike$Spanner;II)I"⟩
abbrev cX8_tallied : ByteArray := prog_10_method_3_code
def yX8_tallied : MethodName := ⟨RX8, "tallied", "(I)I"⟩
abbrev cX8_shown : ByteArray := prog_10_method_4_code
def yX8_shown : MethodName := ⟨RX8, "shown", "(I)J"⟩
abbrev cX8_begin : ByteArray := prog_10_method_5_code
def yX8_begin : MethodName := ⟨RX8, "begin", "(LAlikeUnlike$Form;I)V"⟩
abbrev cX8_isSettled : ByteArray := prog_10_method_6_code
def yX8_isSettled : MethodName := ⟨RX8, "isSettled", "(LAlikeUnlike$Form;LAlikeUnlike$Script;LAlikeUnlike$Spanner;I)Z"⟩
abbrev cX8_hasNoMore : ByteArray := prog_10_method_7_code
def yX8_hasNoMore : MethodName := ⟨RX8, "hasNoMore", "(I)Z"⟩
abbrev cX8_widestOf : ByteArray := prog_10_method_8_code
def yX8_widestOf : MethodName := ⟨RX8, "widestOf", "(I)I"⟩
abbrev cX8_cut : ByteArray := prog_10_method_9_code
def yX8_cut : MethodName := ⟨RX8, "cut", "(II)V"⟩
abbrev cX8_halve : ByteArray := prog_10_method_10_code
def yX8_halve : MethodName := ⟨RX8, "halve", "(II)V"⟩
abbrev cX8_pointOf : ByteArray := prog_10_method_11_code
def yX8_pointOf : MethodName := ⟨RX8, "pointOf", "(I)J"⟩
def RX9 : String := "AlikeUnlike$Spanner"
def TX9 : u_T := fun k => match k with
  | 0 => ("AlikeUnlike$Spanner", "lows", "[J", true)
  | 1 => ("AlikeUnlike$Spanner", "highs", "[J", true)
  | _ => ("AlikeUnlike$Spanner", "top", "I", false)
def tyX9 : Nat → FieldType := fun k => match k with
  | 0 => .array .long
  | 1 => .array .long
  | _ => .int
theorem nmX9 : ∀ a, a < 3 → ∀ b, b < 3 → a ≠ b → (TX9 a).2.1 ≠ (TX9 b).2.1 := by decide +kernel
theorem tyX9_ok : ∀ k, k < 3 → parseFieldDescriptor (TX9 k).2.2.1 = some (tyX9 k) := by decide +kernel
abbrev cX9_init : ByteArray := prog_11_method_1_code
def yX9_init : MethodName := ⟨RX9, "<init>", "()V"⟩
abbrev cX9_endsOver : ByteArray := prog_11_method_2_code
def yX9_endsOver : MethodName := ⟨RX9, "endsOver", "(LAlikeUnlike$Script;[II)I"⟩
abbrev cX9_wasNever : ByteArray := prog_11_method_3_code
def yX9_wasNever : MethodName := ⟨RX9, "wasNever", "()Z"⟩
abbrev cX9_push : ByteArray := prog_11_method_4_code
def yX9_push : MethodName := ⟨RX9, "push", "(JJ)V"⟩
abbrev cX9_turn : ByteArray := prog_11_method_5_code
def yX9_turn : MethodName := ⟨RX9, "turn", "()V"⟩
abbrev cX9_join : ByteArray := prog_11_method_6_code
def yX9_join : MethodName := ⟨RX9, "join", "(I)V"⟩
def RX10 : String := "AlikeUnlike$Walker"
def TX10 : u_T := fun k => match k with
  | 0 => ("AlikeUnlike$Walker", "pile", "[J", true)
  | 1 => ("AlikeUnlike$Walker", "top", "I", false)
  | 2 => ("AlikeUnlike$Walker", "readMissing", "Z", false)
  | _ => ("AlikeUnlike$Walker", "line", "I", false)
def tyX10 : Nat → FieldType := fun k => match k with
  | 0 => .array .long
  | 1 => .int
  | 2 => .boolean
  | _ => .int
theorem nmX10 : ∀ a, a < 4 → ∀ b, b < 4 → a ≠ b → (TX10 a).2.1 ≠ (TX10 b).2.1 := by decide +kernel
theorem tyX10_ok : ∀ k, k < 4 → parseFieldDescriptor (TX10 k).2.2.1 = some (tyX10 k) := by decide +kernel
abbrev cX10_init : ByteArray := prog_12_method_1_code
def yX10_init : MethodName := ⟨RX10, "<init>", "()V"⟩
abbrev cX10_walk : ByteArray := prog_12_method_2_code
def yX10_walk : MethodName := ⟨RX10, "walk", "(LAlikeUnlike$Script;LAlikeUnlike$Person;)I"⟩
abbrev cX10_line : ByteArray := prog_12_method_3_code
def yX10_line : MethodName := ⟨RX10, "line", "()I"⟩
abbrev cX10_endsLine : ByteArray := prog_12_method_4_code
def yX10_endsLine : MethodName := ⟨RX10, "endsLine", "()Z"⟩
abbrev cX10_push : ByteArray := prog_12_method_5_code
def yX10_push : MethodName := ⟨RX10, "push", "(J)V"⟩
abbrev cX10_pushField : ByteArray := prog_12_method_6_code
def yX10_pushField : MethodName := ⟨RX10, "pushField", "(I)V"⟩
abbrev cX10_turn : ByteArray := prog_12_method_7_code
def yX10_turn : MethodName := ⟨RX10, "turn", "()V"⟩
abbrev cX10_join : ByteArray := prog_12_method_8_code
def yX10_join : MethodName := ⟨RX10, "join", "(I)V"⟩
abbrev cX10_joined : ByteArray := prog_12_method_9_code
def yX10_joined : MethodName := ⟨RX10, "joined", "(IJJ)J"⟩
def RX11 : String := "AlikeUnlike"
def TX11 : u_T := fun k => match k with
  | 0 => ("AlikeUnlike", "form", "LAlikeUnlike$Form;", true)
  | 1 => ("AlikeUnlike", "page", "LAlikeUnlike$Page;", true)
  | 2 => ("AlikeUnlike", "script", "LAlikeUnlike$Script;", true)
  | 3 => ("AlikeUnlike", "walker", "LAlikeUnlike$Walker;", true)
  | 4 => ("AlikeUnlike", "spanner", "LAlikeUnlike$Spanner;", true)
  | 5 => ("AlikeUnlike", "search", "LAlikeUnlike$Search;", true)
  | 6 => ("AlikeUnlike", "came", "LAlikeUnlike$Came;", true)
  | 7 => ("AlikeUnlike", "mender", "LAlikeUnlike$Mender;", true)
  | 8 => ("AlikeUnlike", "cheapest", "LAlikeUnlike$Cheapest;", true)
  | 9 => ("AlikeUnlike", "asked", "LAlikeUnlike$Askings;", true)
  | 10 => ("AlikeUnlike", "guest", "LAlikeUnlike$Person;", true)
  | 11 => ("AlikeUnlike", "bound", "LAlikeUnlike$Person;", true)
  | 12 => ("AlikeUnlike", "spans", "[I", true)
  | 13 => ("AlikeUnlike", "seeks", "I", false)
  | _ => ("AlikeUnlike", "mends", "I", false)
def tyX11 : Nat → FieldType := fun k => match k with
  | 0 => .object "AlikeUnlike$Form"
  | 1 => .object "AlikeUnlike$Page"
  | 2 => .object "AlikeUnlike$Script"
  | 3 => .object "AlikeUnlike$Walker"
  | 4 => .object "AlikeUnlike$Spanner"
  | 5 => .object "AlikeUnlike$Search"
  | 6 => .object "AlikeUnlike$Came"
  | 7 => .object "AlikeUnlike$Mender"
  | 8 => .object "AlikeUnlike$Cheapest"
  | 9 => .object "AlikeUnlike$Askings"
  | 10 => .object "AlikeUnlike$Person"
  | 11 => .object "AlikeUnlike$Person"
  | 12 => .array .int
  | 13 => .int
  | _ => .int
theorem nmX11 : ∀ a, a < 15 → ∀ b, b < 15 → a ≠ b → (TX11 a).2.1 ≠ (TX11 b).2.1 := by decide +kernel
theorem tyX11_ok : ∀ k, k < 15 → parseFieldDescriptor (TX11 k).2.2.1 = some (tyX11 k) := by decide +kernel
abbrev cX11_init : ByteArray := prog_1_method_1_code
def yX11_init : MethodName := ⟨RX11, "<init>", "()V"⟩
abbrev cX11_field : ByteArray := prog_1_method_2_code
def yX11_field : MethodName := ⟨RX11, "field", "(III)I"⟩
abbrev cX11_as : ByteArray := prog_1_method_3_code
def yX11_as : MethodName := ⟨RX11, "as", "(II)I"⟩
abbrev cX11_asks : ByteArray := prog_1_method_4_code
def yX11_asks : MethodName := ⟨RX11, "asks", "(II)I"⟩
abbrev cX11_letters : ByteArray := prog_1_method_5_code
def yX11_letters : MethodName := ⟨RX11, "letters", "(J)I"⟩
abbrev cX11_blank : ByteArray := prog_1_method_6_code
def yX11_blank : MethodName := ⟨RX11, "blank", "()I"⟩
abbrev cX11_fault : ByteArray := prog_1_method_7_code
def yX11_fault : MethodName := ⟨RX11, "fault", "(I)I"⟩
abbrev cX11_program : ByteArray := prog_1_method_8_code
def yX11_program : MethodName := ⟨RX11, "program", "()I"⟩
abbrev cX11_law : ByteArray := prog_1_method_9_code
def yX11_law : MethodName := ⟨RX11, "law", "()I"⟩
abbrev cX11_strike : ByteArray := prog_1_method_10_code
def yX11_strike : MethodName := ⟨RX11, "strike", "()I"⟩
abbrev cX11_run : ByteArray := prog_1_method_11_code
def yX11_run : MethodName := ⟨RX11, "run", "(JI)I"⟩
abbrev cX11_seek : ByteArray := prog_1_method_12_code
def yX11_seek : MethodName := ⟨RX11, "seek", "(II)I"⟩
abbrev cX11_sought : ByteArray := prog_1_method_13_code
def yX11_sought : MethodName := ⟨RX11, "sought", "(I)I"⟩
abbrev cX11_pair : ByteArray := prog_1_method_14_code
def yX11_pair : MethodName := ⟨RX11, "pair", "(I)J"⟩
abbrev cX11_ends : ByteArray := prog_1_method_15_code
def yX11_ends : MethodName := ⟨RX11, "ends", "(JJ)I"⟩
abbrev cX11_row : ByteArray := prog_1_method_16_code
def yX11_row : MethodName := ⟨RX11, "row", "(JI)I"⟩
abbrev cX11_end : ByteArray := prog_1_method_17_code
def yX11_end : MethodName := ⟨RX11, "end", "(I)I"⟩
abbrev cX11_group : ByteArray := prog_1_method_18_code
def yX11_group : MethodName := ⟨RX11, "group", "(III)I"⟩
abbrev cX11_gap : ByteArray := prog_1_method_19_code
def yX11_gap : MethodName := ⟨RX11, "gap", "(IIII)I"⟩
abbrev cX11_odds : ByteArray := prog_1_method_20_code
def yX11_odds : MethodName := ⟨RX11, "odds", "(IIII)I"⟩
abbrev cX11_where : ByteArray := prog_1_method_21_code
def yX11_where : MethodName := ⟨RX11, "where", "(I)I"⟩
abbrev cX11_askings : ByteArray := prog_1_method_22_code
def yX11_askings : MethodName := ⟨RX11, "askings", "(IIIIII)I"⟩
abbrev cX11_mend : ByteArray := prog_1_method_23_code
def yX11_mend : MethodName := ⟨RX11, "mend", "(IIII)I"⟩
abbrev cX11_refused : ByteArray := prog_1_method_24_code
def yX11_refused : MethodName := ⟨RX11, "refused", "(II)I"⟩
abbrev cX11_sameFor : ByteArray := prog_1_method_25_code
def yX11_sameFor : MethodName := ⟨RX11, "sameFor", "(III)I"⟩
abbrev cX11_count : ByteArray := prog_1_method_26_code
def yX11_count : MethodName := ⟨RX11, "count", "(I)I"⟩
abbrev cX11_digest : ByteArray := prog_1_method_27_code
def yX11_digest : MethodName := ⟨RX11, "digest", "()J"⟩
abbrev cX11_hasProgram : ByteArray := prog_1_method_28_code
def yX11_hasProgram : MethodName := ⟨RX11, "hasProgram", "()Z"⟩
abbrev cX11_isRow : ByteArray := prog_1_method_29_code
def yX11_isRow : MethodName := ⟨RX11, "isRow", "(I)Z"⟩
abbrev cX11_wasRefused : ByteArray := prog_1_method_30_code
def yX11_wasRefused : MethodName := ⟨RX11, "wasRefused", "(I)Z"⟩
abbrev cX11_ranGuest : ByteArray := prog_1_method_31_code
def yX11_ranGuest : MethodName := ⟨RX11, "ranGuest", "(I)I"⟩
abbrev cX11_foldedGuest : ByteArray := prog_1_method_32_code
def yX11_foldedGuest : MethodName := ⟨RX11, "foldedGuest", "(J)J"⟩
abbrev cX11_refusalOfGroups : ByteArray := prog_1_method_33_code
def yX11_refusalOfGroups : MethodName := ⟨RX11, "refusalOfGroups", "(IIIII)I"⟩
abbrev cX11_isField : ByteArray := prog_1_method_34_code
def yX11_isField : MethodName := ⟨RX11, "isField", "(I)Z"⟩
abbrev cX11_isShortCount : ByteArray := prog_1_method_35_code
def yX11_isShortCount : MethodName := ⟨RX11, "isShortCount", "(I)Z"⟩
abbrev cX11_isDigit : ByteArray := prog_1_method_36_code
def yX11_isDigit : MethodName := ⟨RX11, "isDigit", "(I)Z"⟩
abbrev cX11_isFieldLetter : ByteArray := prog_1_method_37_code
def yX11_isFieldLetter : MethodName := ⟨RX11, "isFieldLetter", "(I)Z"⟩
abbrev cX11_isComparison : ByteArray := prog_1_method_38_code
def yX11_isComparison : MethodName := ⟨RX11, "isComparison", "(I)Z"⟩
abbrev cX11_bit : ByteArray := prog_1_method_39_code
def yX11_bit : MethodName := ⟨RX11, "bit", "(Z)I"⟩
abbrev cX11_fold : ByteArray := prog_1_method_40_code
def yX11_fold : MethodName := ⟨RX11, "fold", "(JJ)J"⟩
abbrev cX11_lowest : ByteArray := prog_1_method_41_code
def yX11_lowest : MethodName := ⟨RX11, "lowest", "(JJI)I"⟩
abbrev cX11_commonDivisor : ByteArray := prog_1_method_42_code
def yX11_commonDivisor : MethodName := ⟨RX11, "commonDivisor", "(JJ)J"⟩
abbrev cX11_choose : ByteArray := prog_1_method_43_code
def yX11_choose : MethodName := ⟨RX11, "choose", "(II)J"⟩
def RX12 : String := "AlikeUnlikeModel"
def TX12 : u_T := fun k => match k with
  | 0 => ("AlikeUnlikeModel", "kinds", "[I", true)
  | 1 => ("AlikeUnlikeModel", "least", "[I", true)
  | 2 => ("AlikeUnlikeModel", "greatest", "[I", true)
  | 3 => ("AlikeUnlikeModel", "prices", "[I", true)
  | 4 => ("AlikeUnlikeModel", "page", "[I", true)
  | 5 => ("AlikeUnlikeModel", "pageMany", "I", false)
  | 6 => ("AlikeUnlikeModel", "state", "I", false)
  | 7 => ("AlikeUnlikeModel", "depth", "I", false)
  | 8 => ("AlikeUnlikeModel", "isRight", "Z", false)
  | 9 => ("AlikeUnlikeModel", "unitMany", "I", false)
  | 10 => ("AlikeUnlikeModel", "isLineBegun", "Z", false)
  | 11 => ("AlikeUnlikeModel", "isLast", "Z", false)
  | 12 => ("AlikeUnlikeModel", "value", "I", false)
  | 13 => ("AlikeUnlikeModel", "readMarks", "[I", true)
  | 14 => ("AlikeUnlikeModel", "readNumbers", "[I", true)
  | 15 => ("AlikeUnlikeModel", "readMany", "I", false)
  | 16 => ("AlikeUnlikeModel", "readLines", "[I", true)
  | 17 => ("AlikeUnlikeModel", "readEnds", "[I", true)
  | 18 => ("AlikeUnlikeModel", "lineMany", "I", false)
  | 19 => ("AlikeUnlikeModel", "waits", "[I", true)
  | 20 => ("AlikeUnlikeModel", "waiting", "I", false)
  | 21 => ("AlikeUnlikeModel", "isProgram", "Z", false)
  | 22 => ("AlikeUnlikeModel", "marks", "[I", true)
  | 23 => ("AlikeUnlikeModel", "numbers", "[I", true)
  | 24 => ("AlikeUnlikeModel", "markMany", "I", false)
  | 25 => ("AlikeUnlikeModel", "lineTo", "[I", true)
  | 26 => ("AlikeUnlikeModel", "lineEnd", "[I", true)
  | 27 => ("AlikeUnlikeModel", "lines", "I", false)
  | 28 => ("AlikeUnlikeModel", "laws", "I", false)
  | 29 => ("AlikeUnlikeModel", "lawMany", "[I", true)
  | 30 => ("AlikeUnlikeModel", "lawMarks", "[I", true)
  | 31 => ("AlikeUnlikeModel", "lawNumbers", "[I", true)
  | 32 => ("AlikeUnlikeModel", "sums", "[J", true)
  | 33 => ("AlikeUnlikeModel", "isGone", "[Z", true)
  | 34 => ("AlikeUnlikeModel", "truths", "[I", true)
  | 35 => ("AlikeUnlikeModel", "who", "[I", true)
  | 36 => ("AlikeUnlikeModel", "endedBy", "I", false)
  | 37 => ("AlikeUnlikeModel", "oneLaw", "[I", true)
  | 38 => ("AlikeUnlikeModel", "oneNumbers", "[I", true)
  | 39 => ("AlikeUnlikeModel", "box", "[I", true)
  | 40 => ("AlikeUnlikeModel", "stack", "[I", true)
  | 41 => ("AlikeUnlikeModel", "stacked", "I", false)
  | 42 => ("AlikeUnlikeModel", "isOne", "[Z", true)
  | 43 => ("AlikeUnlikeModel", "lows", "[J", true)
  | 44 => ("AlikeUnlikeModel", "highs", "[J", true)
  | 45 => ("AlikeUnlikeModel", "seeks", "I", false)
  | 46 => ("AlikeUnlikeModel", "looked", "I", false)
  | 47 => ("AlikeUnlikeModel", "cuts", "I", false)
  | 48 => ("AlikeUnlikeModel", "dones", "I", false)
  | 49 => ("AlikeUnlikeModel", "isPair", "Z", false)
  | 50 => ("AlikeUnlikeModel", "pairOne", "J", false)
  | 51 => ("AlikeUnlikeModel", "pairTwo", "J", false)
  | 52 => ("AlikeUnlikeModel", "rows", "I", false)
  | 53 => ("AlikeUnlikeModel", "rowWho", "[I", true)
  | 54 => ("AlikeUnlikeModel", "rowOut", "[I", true)
  | 55 => ("AlikeUnlikeModel", "rowEnd", "[I", true)
  | 56 => ("AlikeUnlikeModel", "inMany", "I", false)
  | 57 => ("AlikeUnlikeModel", "inLet", "I", false)
  | 58 => ("AlikeUnlikeModel", "oneMany", "I", false)
  | 59 => ("AlikeUnlikeModel", "oneLet", "I", false)
  | 60 => ("AlikeUnlikeModel", "twoMany", "I", false)
  | 61 => ("AlikeUnlikeModel", "twoLet", "I", false)
  | 62 => ("AlikeUnlikeModel", "whereField", "I", false)
  | 63 => ("AlikeUnlikeModel", "whereLeast", "I", false)
  | 64 => ("AlikeUnlikeModel", "whereGreatest", "I", false)
  | 65 => ("AlikeUnlikeModel", "whereUp", "I", false)
  | 66 => ("AlikeUnlikeModel", "whereLow", "I", false)
  | 67 => ("AlikeUnlikeModel", "paid", "I", false)
  | 68 => ("AlikeUnlikeModel", "mends", "I", false)
  | 69 => ("AlikeUnlikeModel", "asWas", "[I", true)
  | 70 => ("AlikeUnlikeModel", "bestWho", "[I", true)
  | _ => ("AlikeUnlikeModel", "hash", "J", false)
def tyX12 : Nat → FieldType := fun k => match k with
  | 0 => .array .int
  | 1 => .array .int
  | 2 => .array .int
  | 3 => .array .int
  | 4 => .array .int
  | 5 => .int
  | 6 => .int
  | 7 => .int
  | 8 => .boolean
  | 9 => .int
  | 10 => .boolean
  | 11 => .boolean
  | 12 => .int
  | 13 => .array .int
  | 14 => .array .int
  | 15 => .int
  | 16 => .array .int
  | 17 => .array .int
  | 18 => .int
  | 19 => .array .int
  | 20 => .int
  | 21 => .boolean
  | 22 => .array .int
  | 23 => .array .int
  | 24 => .int
  | 25 => .array .int
  | 26 => .array .int
  | 27 => .int
  | 28 => .int
  | 29 => .array .int
  | 30 => .array .int
  | 31 => .array .int
  | 32 => .array .long
  | 33 => .array .boolean
  | 34 => .array .int
  | 35 => .array .int
  | 36 => .int
  | 37 => .array .int
  | 38 => .array .int
  | 39 => .array .int
  | 40 => .array .int
  | 41 => .int
  | 42 => .array .boolean
  | 43 => .array .long
  | 44 => .array .long
  | 45 => .int
  | 46 => .int
  | 47 => .int
  | 48 => .int
  | 49 => .boolean
  | 50 => .long
  | 51 => .long
  | 52 => .int
  | 53 => .array .int
  | 54 => .array .int
  | 55 => .array .int
  | 56 => .int
  | 57 => .int
  | 58 => .int
  | 59 => .int
  | 60 => .int
  | 61 => .int
  | 62 => .int
  | 63 => .int
  | 64 => .int
  | 65 => .int
  | 66 => .int
  | 67 => .int
  | 68 => .int
  | 69 => .array .int
  | 70 => .array .int
  | _ => .long
theorem nmX12 : ∀ a, a < 72 → ∀ b, b < 72 → a ≠ b → (TX12 a).2.1 ≠ (TX12 b).2.1 := by decide +kernel
theorem tyX12_ok : ∀ k, k < 72 → parseFieldDescriptor (TX12 k).2.2.1 = some (tyX12 k) := by decide +kernel
abbrev cX12_init : ByteArray := prog_14_method_1_code
def yX12_init : MethodName := ⟨RX12, "<init>", "()V"⟩
abbrev cX12_in : ByteArray := prog_14_method_2_code
def yX12_in : MethodName := ⟨RX12, "in", "(JJJ)Z"⟩
abbrev cX12_isField : ByteArray := prog_14_method_3_code
def yX12_isField : MethodName := ⟨RX12, "isField", "(I)Z"⟩
abbrev cX12_told : ByteArray := prog_14_method_4_code
def yX12_told : MethodName := ⟨RX12, "told", "(II)I"⟩
abbrev cX12_mayMany : ByteArray := prog_14_method_5_code
def yX12_mayMany : MethodName := ⟨RX12, "mayMany", "()I"⟩
abbrev cX12_field : ByteArray := prog_14_method_6_code
def yX12_field : MethodName := ⟨RX12, "field", "(III)I"⟩
abbrev cX12_as : ByteArray := prog_14_method_7_code
def yX12_as : MethodName := ⟨RX12, "as", "(II)I"⟩
abbrev cX12_counts : ByteArray := prog_14_method_8_code
def yX12_counts : MethodName := ⟨RX12, "counts", "(I)Z"⟩
abbrev cX12_asks : ByteArray := prog_14_method_9_code
def yX12_asks : MethodName := ⟨RX12, "asks", "(II)I"⟩
abbrev cX12_letters : ByteArray := prog_14_method_10_code
def yX12_letters : MethodName := ⟨RX12, "letters", "(J)I"⟩
abbrev cX12_blank : ByteArray := prog_14_method_11_code
def yX12_blank : MethodName := ⟨RX12, "blank", "()I"⟩
abbrev cX12_lay : ByteArray := prog_14_method_12_code
def yX12_lay : MethodName := ⟨RX12, "lay", "(II)V"⟩
abbrev cX12_layDown : ByteArray := prog_14_method_13_code
def yX12_layDown : MethodName := ⟨RX12, "layDown", "(I)V"⟩
abbrev cX12_await : ByteArray := prog_14_method_14_code
def yX12_await : MethodName := ⟨RX12, "await", "(II)V"⟩
abbrev cX12_takeUnit : ByteArray := prog_14_method_15_code
def yX12_takeUnit : MethodName := ⟨RX12, "takeUnit", "(I)Z"⟩
abbrev cX12_goFactor : ByteArray := prog_14_method_16_code
def yX12_goFactor : MethodName := ⟨RX12, "goFactor", "(II)Z"⟩
abbrev cX12_goOn : ByteArray := prog_14_method_17_code
def yX12_goOn : MethodName := ⟨RX12, "goOn", "(II)Z"⟩
abbrev cX12_goBehind : ByteArray := prog_14_method_18_code
def yX12_goBehind : MethodName := ⟨RX12, "goBehind", "(II)Z"⟩
abbrev cX12_go : ByteArray := prog_14_method_19_code
def yX12_go : MethodName := ⟨RX12, "go", "(II)Z"⟩
abbrev cX12_faultOf : ByteArray := prog_14_method_20_code
def yX12_faultOf : MethodName := ⟨RX12, "faultOf", "(I)I"⟩
abbrev cX12_fault : ByteArray := prog_14_method_21_code
def yX12_fault : MethodName := ⟨RX12, "fault", "(I)I"⟩
abbrev cX12_program : ByteArray := prog_14_method_22_code
def yX12_program : MethodName := ⟨RX12, "program", "()I"⟩
abbrev cX12_law : ByteArray := prog_14_method_23_code
def yX12_law : MethodName := ⟨RX12, "law", "()I"⟩
abbrev cX12_strike : ByteArray := prog_14_method_24_code
def yX12_strike : MethodName := ⟨RX12, "strike", "()I"⟩
abbrev cX12_joined : ByteArray := prog_14_method_25_code
def yX12_joined : MethodName := ⟨RX12, "joined", "(III)I"⟩
abbrev cX12_compared : ByteArray := prog_14_method_26_code
def yX12_compared : MethodName := ⟨RX12, "compared", "(IJJ)I"⟩
abbrev cX12_holds : ByteArray := prog_14_method_27_code
def yX12_holds : MethodName := ⟨RX12, "holds", "([I[III)I"⟩
abbrev cX12_runWho : ByteArray := prog_14_method_28_code
def yX12_runWho : MethodName := ⟨RX12, "runWho", "()I"⟩
abbrev cX12_takeLaw : ByteArray := prog_14_method_29_code
def yX12_takeLaw : MethodName := ⟨RX12, "takeLaw", "(I)V"⟩
abbrev cX12_couldCome : ByteArray := prog_14_method_30_code
def yX12_couldCome : MethodName := ⟨RX12, "couldCome", "()Z"⟩
abbrev cX12_takePerson : ByteArray := prog_14_method_31_code
def yX12_takePerson : MethodName := ⟨RX12, "takePerson", "(J)Z"⟩
abbrev cX12_toldOf : ByteArray := prog_14_method_32_code
def yX12_toldOf : MethodName := ⟨RX12, "toldOf", "(I)I"⟩
abbrev cX12_run : ByteArray := prog_14_method_33_code
def yX12_run : MethodName := ⟨RX12, "run", "(JI)I"⟩
abbrev cX12_spanned : ByteArray := prog_14_method_34_code
def yX12_spanned : MethodName := ⟨RX12, "spanned", "(IJJJJ)I"⟩
abbrev cX12_both : ByteArray := prog_14_method_35_code
def yX12_both : MethodName := ⟨RX12, "both", "(III)I"⟩
abbrev cX12_multiply : ByteArray := prog_14_method_36_code
def yX12_multiply : MethodName := ⟨RX12, "multiply", "(I)V"⟩
abbrev cX12_onBox : ByteArray := prog_14_method_37_code
def yX12_onBox : MethodName := ⟨RX12, "onBox", "([I[IIII)I"⟩
abbrev cX12_endsOf : ByteArray := prog_14_method_38_code
def yX12_endsOf : MethodName := ⟨RX12, "endsOf", "(I)I"⟩
abbrev cX12_isDone : ByteArray := prog_14_method_39_code
def yX12_isDone : MethodName := ⟨RX12, "isDone", "(I)Z"⟩
abbrev cX12_widest : ByteArray := prog_14_method_40_code
def yX12_widest : MethodName := ⟨RX12, "widest", "()I"⟩
abbrev cX12_push : ByteArray := prog_14_method_41_code
def yX12_push : MethodName := ⟨RX12, "push", "(III)V"⟩
abbrev cX12_boxPerson : ByteArray := prog_14_method_42_code
def yX12_boxPerson : MethodName := ⟨RX12, "boxPerson", "(I)J"⟩
abbrev cX12_search : ByteArray := prog_14_method_43_code
def yX12_search : MethodName := ⟨RX12, "search", "(II)I"⟩
abbrev cX12_seek : ByteArray := prog_14_method_44_code
def yX12_seek : MethodName := ⟨RX12, "seek", "(II)I"⟩
abbrev cX12_sought : ByteArray := prog_14_method_45_code
def yX12_sought : MethodName := ⟨RX12, "sought", "(I)I"⟩
abbrev cX12_pair : ByteArray := prog_14_method_46_code
def yX12_pair : MethodName := ⟨RX12, "pair", "(I)J"⟩
abbrev cX12_ends : ByteArray := prog_14_method_47_code
def yX12_ends : MethodName := ⟨RX12, "ends", "(JJ)I"⟩
abbrev cX12_row : ByteArray := prog_14_method_48_code
def yX12_row : MethodName := ⟨RX12, "row", "(JI)I"⟩
abbrev cX12_takeRow : ByteArray := prog_14_method_49_code
def yX12_takeRow : MethodName := ⟨RX12, "takeRow", "(I)V"⟩
abbrev cX12_runAll : ByteArray := prog_14_method_50_code
def yX12_runAll : MethodName := ⟨RX12, "runAll", "()V"⟩
abbrev cX12_isRow : ByteArray := prog_14_method_51_code
def yX12_isRow : MethodName := ⟨RX12, "isRow", "(I)Z"⟩
abbrev cX12_endOf : ByteArray := prog_14_method_52_code
def yX12_endOf : MethodName := ⟨RX12, "endOf", "(I)I"⟩
abbrev cX12_end : ByteArray := prog_14_method_53_code
def yX12_end : MethodName := ⟨RX12, "end", "(I)I"⟩
abbrev cX12_countGroup : ByteArray := prog_14_method_54_code
def yX12_countGroup : MethodName := ⟨RX12, "countGroup", "(IIIZ)V"⟩
abbrev cX12_isNumber : ByteArray := prog_14_method_55_code
def yX12_isNumber : MethodName := ⟨RX12, "isNumber", "(I)Z"⟩
abbrev cX12_groupOf : ByteArray := prog_14_method_56_code
def yX12_groupOf : MethodName := ⟨RX12, "groupOf", "(III)I"⟩
abbrev cX12_group : ByteArray := prog_14_method_57_code
def yX12_group : MethodName := ⟨RX12, "group", "(III)I"⟩
abbrev cX12_common : ByteArray := prog_14_method_58_code
def yX12_common : MethodName := ⟨RX12, "common", "(JJ)J"⟩
abbrev cX12_takeGroups : ByteArray := prog_14_method_59_code
def yX12_takeGroups : MethodName := ⟨RX12, "takeGroups", "(III)V"⟩
abbrev cX12_gapOf : ByteArray := prog_14_method_60_code
def yX12_gapOf : MethodName := ⟨RX12, "gapOf", "(IIII)I"⟩
abbrev cX12_gapRefusal : ByteArray := prog_14_method_61_code
def yX12_gapRefusal : MethodName := ⟨RX12, "gapRefusal", "(IIIZ)I"⟩
abbrev cX12_part : ByteArray := prog_14_method_62_code
def yX12_part : MethodName := ⟨RX12, "part", "(JJI)I"⟩
abbrev cX12_gap : ByteArray := prog_14_method_63_code
def yX12_gap : MethodName := ⟨RX12, "gap", "(IIII)I"⟩
abbrev cX12_choose : ByteArray := prog_14_method_64_code
def yX12_choose : MethodName := ⟨RX12, "choose", "(II)J"⟩
abbrev cX12_odds : ByteArray := prog_14_method_65_code
def yX12_odds : MethodName := ⟨RX12, "odds", "(IIII)I"⟩
abbrev cX12_findWhere : ByteArray := prog_14_method_66_code
def yX12_findWhere : MethodName := ⟨RX12, "findWhere", "()V"⟩
abbrev cX12_whereOf : ByteArray := prog_14_method_67_code
def yX12_whereOf : MethodName := ⟨RX12, "whereOf", "(I)I"⟩
abbrev cX12_where : ByteArray := prog_14_method_68_code
def yX12_where : MethodName := ⟨RX12, "where", "(I)I"⟩
abbrev cX12_asked : ByteArray := prog_14_method_69_code
def yX12_asked : MethodName := ⟨RX12, "asked", "(II)Z"⟩
abbrev cX12_mostLet : ByteArray := prog_14_method_70_code
def yX12_mostLet : MethodName := ⟨RX12, "mostLet", "(IIIII)I"⟩
abbrev cX12_askings : ByteArray := prog_14_method_71_code
def yX12_askings : MethodName := ⟨RX12, "askings", "(IIIIII)I"⟩
abbrev cX12_numberMany : ByteArray := prog_14_method_72_code
def yX12_numberMany : MethodName := ⟨RX12, "numberMany", "()I"⟩
abbrev cX12_numberAt : ByteArray := prog_14_method_73_code
def yX12_numberAt : MethodName := ⟨RX12, "numberAt", "(I)I"⟩
abbrev cX12_isNought : ByteArray := prog_14_method_74_code
def yX12_isNought : MethodName := ⟨RX12, "isNought", "(III)Z"⟩
abbrev cX12_mend : ByteArray := prog_14_method_75_code
def yX12_mend : MethodName := ⟨RX12, "mend", "(IIII)I"⟩
abbrev cX12_price : ByteArray := prog_14_method_76_code
def yX12_price : MethodName := ⟨RX12, "price", "(II)I"⟩
abbrev cX12_leastPrice : ByteArray := prog_14_method_77_code
def yX12_leastPrice : MethodName := ⟨RX12, "leastPrice", "()I"⟩
abbrev cX12_mayAt : ByteArray := prog_14_method_78_code
def yX12_mayAt : MethodName := ⟨RX12, "mayAt", "(I)I"⟩
abbrev cX12_isRefused : ByteArray := prog_14_method_79_code
def yX12_isRefused : MethodName := ⟨RX12, "isRefused", "(I)Z"⟩
abbrev cX12_refused : ByteArray := prog_14_method_80_code
def yX12_refused : MethodName := ⟨RX12, "refused", "(II)I"⟩
abbrev cX12_sameFor : ByteArray := prog_14_method_81_code
def yX12_sameFor : MethodName := ⟨RX12, "sameFor", "(III)I"⟩
abbrev cX12_countOf : ByteArray := prog_14_method_82_code
def yX12_countOf : MethodName := ⟨RX12, "countOf", "(I)I"⟩
abbrev cX12_count : ByteArray := prog_14_method_83_code
def yX12_count : MethodName := ⟨RX12, "count", "(I)I"⟩
abbrev cX12_tell : ByteArray := prog_14_method_84_code
def yX12_tell : MethodName := ⟨RX12, "tell", "(J)V"⟩
abbrev cX12_tellWho : ByteArray := prog_14_method_85_code
def yX12_tellWho : MethodName := ⟨RX12, "tellWho", "()V"⟩
abbrev cX12_digest : ByteArray := prog_14_method_86_code
def yX12_digest : MethodName := ⟨RX12, "digest", "()J"⟩
def RJ6 : String := "java/lang/Integer"
abbrev cJ6_bitCount_0f7a4 : ByteArray := prog_15_method_49_code
def yJ6_bitCount_0f7a4 : MethodName := ⟨RJ6, "bitCount", "(I)I"⟩
def RJ9 : String := "java/lang/Math"
abbrev cJ9_abs_0f7a4 : ByteArray := prog_16_method_59_code
def yJ9_abs_0f7a4 : MethodName := ⟨RJ9, "abs", "(I)I"⟩
abbrev cJ9_max_7cf53 : ByteArray := prog_16_method_65_code
def yJ9_max_7cf53 : MethodName := ⟨RJ9, "max", "(II)I"⟩
abbrev cJ9_max_f86c9 : ByteArray := prog_16_method_66_code
def yJ9_max_f86c9 : MethodName := ⟨RJ9, "max", "(JJ)J"⟩
abbrev cJ9_min_f86c9 : ByteArray := prog_16_method_70_code
def yJ9_min_f86c9 : MethodName := ⟨RJ9, "min", "(JJ)J"⟩
def RJ10 : String := "java/lang/System"
def RL : String := "AlikeUnlikeLaw"
abbrev cL_law : ByteArray := code
def yL_law : MethodName := ⟨RL, "law", "([I)Z"⟩
abbrev cls : List vw_C := [(RX0, TX0, 6), (RX1, TX1, 14), (RX2, TX2, 3), (RX3, TX3, 3), (RX4, TX4, 6), (RX5, TX5, 9), (RX6, TX6, 1), (RX7, TX7, 8), (RX8, TX8, 9), (RX9, TX9, 3), (RX10, TX10, 4), (RX11, TX11, 15), (RX12, TX12, 72)]
def TW : List Cond := lw_tbl.filter goodWord
theorem TW_of {w : Cond} (h : w ∈ lw_tbl) (g : goodWord w = true) : w ∈ TW := List.mem_filter.mpr ⟨h, g⟩
theorem tb_of {w : Cond} (h : w ∈ tables_1) : w ∈ lw_tbl := List.mem_append_right _ h
theorem wt1 {w : Cond} (i : Nat) (hi : tables_1_1[i]? = some w) (g : goodWord w = true) : w ∈ TW := TW_of (tb_of (have h := List.mem_of_getElem? hi; (List.mem_append_left _ h))) g
theorem wu1 {w : Cond} (i : Nat) (hi : tables_1_1[i]? = some w) : w ∈ lw_tbl := tb_of (have h := List.mem_of_getElem? hi; (List.mem_append_left _ h))
theorem wt2 {w : Cond} (i : Nat) (hi : tables_1_2[i]? = some w) (g : goodWord w = true) : w ∈ TW := TW_of (tb_of (have h := List.mem_of_getElem? hi; (List.mem_append_right _ (List.mem_append_left _ h)))) g
theorem wu2 {w : Cond} (i : Nat) (hi : tables_1_2[i]? = some w) : w ∈ lw_tbl := tb_of (have h := List.mem_of_getElem? hi; (List.mem_append_right _ (List.mem_append_left _ h)))
theorem wt3 {w : Cond} (i : Nat) (hi : tables_1_3[i]? = some w) (g : goodWord w = true) : w ∈ TW := TW_of (tb_of (have h := List.mem_of_getElem? hi; (List.mem_append_right _ (List.mem_append_right _ (List.mem_append_left _ h))))) g
theorem wu3 {w : Cond} (i : Nat) (hi : tables_1_3[i]? = some w) : w ∈ lw_tbl := tb_of (have h := List.mem_of_getElem? hi; (List.mem_append_right _ (List.mem_append_right _ (List.mem_append_left _ h))))
theorem wt4 {w : Cond} (i : Nat) (hi : tables_1_4[i]? = some w) (g : goodWord w = true) : w ∈ TW := TW_of (tb_of (have h := List.mem_of_getElem? hi; (List.mem_append_right _ (List.mem_append_right _ (List.mem_append_right _ (List.mem_append_left _ h)))))) g
theorem wu4 {w : Cond} (i : Nat) (hi : tables_1_4[i]? = some w) : w ∈ lw_tbl := tb_of (have h := List.mem_of_getElem? hi; (List.mem_append_right _ (List.mem_append_right _ (List.mem_append_right _ (List.mem_append_left _ h)))))
theorem wt5 {w : Cond} (i : Nat) (hi : tables_1_5[i]? = some w) (g : goodWord w = true) : w ∈ TW := TW_of (tb_of (have h := List.mem_of_getElem? hi; (List.mem_append_right _ (List.mem_append_right _ (List.mem_append_right _ (List.mem_append_right _ (List.mem_append_left _ h))))))) g
theorem wu5 {w : Cond} (i : Nat) (hi : tables_1_5[i]? = some w) : w ∈ lw_tbl := tb_of (have h := List.mem_of_getElem? hi; (List.mem_append_right _ (List.mem_append_right _ (List.mem_append_right _ (List.mem_append_right _ (List.mem_append_left _ h))))))
theorem wt6 {w : Cond} (i : Nat) (hi : tables_1_6[i]? = some w) (g : goodWord w = true) : w ∈ TW := TW_of (tb_of (have h := List.mem_of_getElem? hi; (List.mem_append_right _ (List.mem_append_right _ (List.mem_append_right _ (List.mem_append_right _ (List.mem_append_right _ (List.mem_append_left _ h)))))))) g
theorem wu6 {w : Cond} (i : Nat) (hi : tables_1_6[i]? = some w) : w ∈ lw_tbl := tb_of (have h := List.mem_of_getElem? hi; (List.mem_append_right _ (List.mem_append_right _ (List.mem_append_right _ (List.mem_append_right _ (List.mem_append_right _ (List.mem_append_left _ h)))))))
theorem wt7 {w : Cond} (i : Nat) (hi : tables_1_7[i]? = some w) (g : goodWord w = true) : w ∈ TW := TW_of (tb_of (have h := List.mem_of_getElem? hi; (List.mem_append_right _ (List.mem_append_right _ (List.mem_append_right _ (List.mem_append_right _ (List.mem_append_right _ (List.mem_append_right _ h)))))))) g
theorem wu7 {w : Cond} (i : Nat) (hi : tables_1_7[i]? = some w) : w ∈ lw_tbl := tb_of (have h := List.mem_of_getElem? hi; (List.mem_append_right _ (List.mem_append_right _ (List.mem_append_right _ (List.mem_append_right _ (List.mem_append_right _ (List.mem_append_right _ h)))))))
theorem goodIn_TW {ws : List Cond} (h : ∀ w ∈ ws, w ∈ TW) : GoodIn TW ws := fun w hw => ⟨h w hw, good_of_word (List.mem_filter.mp (h w hw)).2⟩
theorem TW_lw : ∀ w ∈ TW, w ∈ lw_tbl := fun w h => (List.mem_filter.mp h).1
theorem lyX0_0 : u_lay RX0 TX0 0 ∈ TW := wt2 57 (by decide +kernel) (by decide +kernel)
theorem lyX0_1 : u_lay RX0 TX0 1 ∈ TW := wt2 59 (by decide +kernel) (by decide +kernel)
theorem lyX0_2 : u_lay RX0 TX0 2 ∈ TW := wt2 61 (by decide +kernel) (by decide +kernel)
theorem lyX0_3 : u_lay RX0 TX0 3 ∈ TW := wt2 63 (by decide +kernel) (by decide +kernel)
theorem lyX0_4 : u_lay RX0 TX0 4 ∈ TW := wt2 65 (by decide +kernel) (by decide +kernel)
theorem lyX0_5 : u_lay RX0 TX0 5 ∈ TW := wt2 67 (by decide +kernel) (by decide +kernel)
theorem inX0 : ∀ w ∈ u_ws RX0 TX0 6, w ∈ TW := by
  intro w hw
  obtain ⟨j, hj, rfl⟩ := List.mem_map.mp hw
  have hj := List.mem_range.mp hj
  match j, hj with
  | 0, _ => exact lyX0_0
  | 1, _ => exact lyX0_1
  | 2, _ => exact lyX0_2
  | 3, _ => exact lyX0_3
  | 4, _ => exact lyX0_4
  | 5, _ => exact lyX0_5
  | n + 6, h => exact absurd h (by omega)
theorem lyX1_0 : u_lay RX1 TX1 0 ∈ TW := wt1 213 (by decide +kernel) (by decide +kernel)
theorem lyX1_1 : u_lay RX1 TX1 1 ∈ TW := wt1 215 (by decide +kernel) (by decide +kernel)
theorem lyX1_2 : u_lay RX1 TX1 2 ∈ TW := wt1 217 (by decide +kernel) (by decide +kernel)
theorem lyX1_3 : u_lay RX1 TX1 3 ∈ TW := wt1 219 (by decide +kernel) (by decide +kernel)
theorem lyX1_4 : u_lay RX1 TX1 4 ∈ TW := wt1 221 (by decide +kernel) (by decide +kernel)
theorem lyX1_5 : u_lay RX1 TX1 5 ∈ TW := wt1 223 (by decide +kernel) (by decide +kernel)
theorem lyX1_6 : u_lay RX1 TX1 6 ∈ TW := wt1 225 (by decide +kernel) (by decide +kernel)
theorem lyX1_7 : u_lay RX1 TX1 7 ∈ TW := wt1 227 (by decide +kernel) (by decide +kernel)
theorem lyX1_8 : u_lay RX1 TX1 8 ∈ TW := wt1 229 (by decide +kernel) (by decide +kernel)
theorem lyX1_9 : u_lay RX1 TX1 9 ∈ TW := wt1 231 (by decide +kernel) (by decide +kernel)
theorem lyX1_10 : u_lay RX1 TX1 10 ∈ TW := wt1 233 (by decide +kernel) (by decide +kernel)
theorem lyX1_11 : u_lay RX1 TX1 11 ∈ TW := wt1 235 (by decide +kernel) (by decide +kernel)
theorem lyX1_12 : u_lay RX1 TX1 12 ∈ TW := wt1 237 (by decide +kernel) (by decide +kernel)
theorem lyX1_13 : u_lay RX1 TX1 13 ∈ TW := wt1 239 (by decide +kernel) (by decide +kernel)
theorem inX1 : ∀ w ∈ u_ws RX1 TX1 14, w ∈ TW := by
  intro w hw
  obtain ⟨j, hj, rfl⟩ := List.mem_map.mp hw
  have hj := List.mem_range.mp hj
  match j, hj with
  | 0, _ => exact lyX1_0
  | 1, _ => exact lyX1_1
  | 2, _ => exact lyX1_2
  | 3, _ => exact lyX1_3
  | 4, _ => exact lyX1_4
  | 5, _ => exact lyX1_5
  | 6, _ => exact lyX1_6
  | 7, _ => exact lyX1_7
  | 8, _ => exact lyX1_8
  | 9, _ => exact lyX1_9
  | 10, _ => exact lyX1_10
  | 11, _ => exact lyX1_11
  | 12, _ => exact lyX1_12
  | 13, _ => exact lyX1_13
  | n + 14, h => exact absurd h (by omega)
theorem lyX2_0 : u_lay RX2 TX2 0 ∈ TW := wt2 38 (by decide +kernel) (by decide +kernel)
theorem lyX2_1 : u_lay RX2 TX2 1 ∈ TW := wt2 40 (by decide +kernel) (by decide +kernel)
theorem lyX2_2 : u_lay RX2 TX2 2 ∈ TW := wt2 42 (by decide +kernel) (by decide +kernel)
theorem inX2 : ∀ w ∈ u_ws RX2 TX2 3, w ∈ TW := by
  intro w hw
  obtain ⟨j, hj, rfl⟩ := List.mem_map.mp hw
  have hj := List.mem_range.mp hj
  match j, hj with
  | 0, _ => exact lyX2_0
  | 1, _ => exact lyX2_1
  | 2, _ => exact lyX2_2
  | n + 3, h => exact absurd h (by omega)
theorem lyX3_0 : u_lay RX3 TX3 0 ∈ TW := wt1 67 (by decide +kernel) (by decide +kernel)
theorem lyX3_1 : u_lay RX3 TX3 1 ∈ TW := wt1 69 (by decide +kernel) (by decide +kernel)
theorem lyX3_2 : u_lay RX3 TX3 2 ∈ TW := wt1 71 (by decide +kernel) (by decide +kernel)
theorem inX3 : ∀ w ∈ u_ws RX3 TX3 3, w ∈ TW := by
  intro w hw
  obtain ⟨j, hj, rfl⟩ := List.mem_map.mp hw
  have hj := List.mem_range.mp hj
  match j, hj with
  | 0, _ => exact lyX3_0
  | 1, _ => exact lyX3_1
  | 2, _ => exact lyX3_2
  | n + 3, h => exact absurd h (by omega)
theorem lyX4_0 : u_lay RX4 TX4 0 ∈ TW := wt2 14 (by decide +kernel) (by decide +kernel)
theorem lyX4_1 : u_lay RX4 TX4 1 ∈ TW := wt2 16 (by decide +kernel) (by decide +kernel)
theorem lyX4_2 : u_lay RX4 TX4 2 ∈ TW := wt2 18 (by decide +kernel) (by decide +kernel)
theorem lyX4_3 : u_lay RX4 TX4 3 ∈ TW := wt2 20 (by decide +kernel) (by decide +kernel)
theorem lyX4_4 : u_lay RX4 TX4 4 ∈ TW := wt2 22 (by decide +kernel) (by decide +kernel)
theorem lyX4_5 : u_lay RX4 TX4 5 ∈ TW := wt2 24 (by decide +kernel) (by decide +kernel)
theorem inX4 : ∀ w ∈ u_ws RX4 TX4 6, w ∈ TW := by
  intro w hw
  obtain ⟨j, hj, rfl⟩ := List.mem_map.mp hw
  have hj := List.mem_range.mp hj
  match j, hj with
  | 0, _ => exact lyX4_0
  | 1, _ => exact lyX4_1
  | 2, _ => exact lyX4_2
  | 3, _ => exact lyX4_3
  | 4, _ => exact lyX4_4
  | 5, _ => exact lyX4_5
  | n + 6, h => exact absurd h (by omega)
theorem lyX5_0 : u_lay RX5 TX5 0 ∈ TW := wt1 89 (by decide +kernel) (by decide +kernel)
theorem lyX5_1 : u_lay RX5 TX5 1 ∈ TW := wt1 91 (by decide +kernel) (by decide +kernel)
theorem lyX5_2 : u_lay RX5 TX5 2 ∈ TW := wt1 93 (by decide +kernel) (by decide +kernel)
theorem lyX5_3 : u_lay RX5 TX5 3 ∈ TW := wt1 95 (by decide +kernel) (by decide +kernel)
theorem lyX5_4 : u_lay RX5 TX5 4 ∈ TW := wt1 97 (by decide +kernel) (by decide +kernel)
theorem lyX5_5 : u_lay RX5 TX5 5 ∈ TW := wt1 99 (by decide +kernel) (by decide +kernel)
theorem lyX5_6 : u_lay RX5 TX5 6 ∈ TW := wt1 101 (by decide +kernel) (by decide +kernel)
theorem lyX5_7 : u_lay RX5 TX5 7 ∈ TW := wt1 103 (by decide +kernel) (by decide +kernel)
theorem lyX5_8 : u_lay RX5 TX5 8 ∈ TW := wt1 105 (by decide +kernel) (by decide +kernel)
theorem inX5 : ∀ w ∈ u_ws RX5 TX5 9, w ∈ TW := by
  intro w hw
  obtain ⟨j, hj, rfl⟩ := List.mem_map.mp hw
  have hj := List.mem_range.mp hj
  match j, hj with
  | 0, _ => exact lyX5_0
  | 1, _ => exact lyX5_1
  | 2, _ => exact lyX5_2
  | 3, _ => exact lyX5_3
  | 4, _ => exact lyX5_4
  | 5, _ => exact lyX5_5
  | 6, _ => exact lyX5_6
  | 7, _ => exact lyX5_7
  | 8, _ => exact lyX5_8
  | n + 9, h => exact absurd h (by omega)
theorem lyX6_0 : u_lay RX6 TX6 0 ∈ TW := wt1 196 (by decide +kernel) (by decide +kernel)
theorem inX6 : ∀ w ∈ u_ws RX6 TX6 1, w ∈ TW := by
  intro w hw
  obtain ⟨j, hj, rfl⟩ := List.mem_map.mp hw
  have hj := List.mem_range.mp hj
  match j, hj with
  | 0, _ => exact lyX6_0
  | n + 1, h => exact absurd h (by omega)
theorem lyX7_0 : u_lay RX7 TX7 0 ∈ TW := wt1 46 (by decide +kernel) (by decide +kernel)
theorem lyX7_1 : u_lay RX7 TX7 1 ∈ TW := wt1 48 (by decide +kernel) (by decide +kernel)
theorem lyX7_2 : u_lay RX7 TX7 2 ∈ TW := wt1 50 (by decide +kernel) (by decide +kernel)
theorem lyX7_3 : u_lay RX7 TX7 3 ∈ TW := wt1 52 (by decide +kernel) (by decide +kernel)
theorem lyX7_4 : u_lay RX7 TX7 4 ∈ TW := wt1 54 (by decide +kernel) (by decide +kernel)
theorem lyX7_5 : u_lay RX7 TX7 5 ∈ TW := wt1 56 (by decide +kernel) (by decide +kernel)
theorem lyX7_6 : u_lay RX7 TX7 6 ∈ TW := wt1 58 (by decide +kernel) (by decide +kernel)
theorem lyX7_7 : u_lay RX7 TX7 7 ∈ TW := wt1 60 (by decide +kernel) (by decide +kernel)
theorem inX7 : ∀ w ∈ u_ws RX7 TX7 8, w ∈ TW := by
  intro w hw
  obtain ⟨j, hj, rfl⟩ := List.mem_map.mp hw
  have hj := List.mem_range.mp hj
  match j, hj with
  | 0, _ => exact lyX7_0
  | 1, _ => exact lyX7_1
  | 2, _ => exact lyX7_2
  | 3, _ => exact lyX7_3
  | 4, _ => exact lyX7_4
  | 5, _ => exact lyX7_5
  | 6, _ => exact lyX7_6
  | 7, _ => exact lyX7_7
  | n + 8, h => exact absurd h (by omega)
theorem lyX8_0 : u_lay RX8 TX8 0 ∈ TW := wt1 162 (by decide +kernel) (by decide +kernel)
theorem lyX8_1 : u_lay RX8 TX8 1 ∈ TW := wt1 164 (by decide +kernel) (by decide +kernel)
theorem lyX8_2 : u_lay RX8 TX8 2 ∈ TW := wt1 166 (by decide +kernel) (by decide +kernel)
theorem lyX8_3 : u_lay RX8 TX8 3 ∈ TW := wt1 168 (by decide +kernel) (by decide +kernel)
theorem lyX8_4 : u_lay RX8 TX8 4 ∈ TW := wt1 170 (by decide +kernel) (by decide +kernel)
theorem lyX8_5 : u_lay RX8 TX8 5 ∈ TW := wt1 172 (by decide +kernel) (by decide +kernel)
theorem lyX8_6 : u_lay RX8 TX8 6 ∈ TW := wt1 174 (by decide +kernel) (by decide +kernel)
theorem lyX8_7 : u_lay RX8 TX8 7 ∈ TW := wt1 176 (by decide +kernel) (by decide +kernel)
theorem lyX8_8 : u_lay RX8 TX8 8 ∈ TW := wt1 178 (by decide +kernel) (by decide +kernel)
theorem inX8 : ∀ w ∈ u_ws RX8 TX8 9, w ∈ TW := by
  intro w hw
  obtain ⟨j, hj, rfl⟩ := List.mem_map.mp hw
  have hj := List.mem_range.mp hj
  match j, hj with
  | 0, _ => exact lyX8_0
  | 1, _ => exact lyX8_1
  | 2, _ => exact lyX8_2
  | 3, _ => exact lyX8_3
  | 4, _ => exact lyX8_4
  | 5, _ => exact lyX8_5
  | 6, _ => exact lyX8_6
  | 7, _ => exact lyX8_7
  | 8, _ => exact lyX8_8
  | n + 9, h => exact absurd h (by omega)
theorem lyX9_0 : u_lay RX9 TX9 0 ∈ TW := wt1 139 (by decide +kernel) (by decide +kernel)
theorem lyX9_1 : u_lay RX9 TX9 1 ∈ TW := wt1 141 (by decide +kernel) (by decide +kernel)
theorem lyX9_2 : u_lay RX9 TX9 2 ∈ TW := wt1 143 (by decide +kernel) (by decide +kernel)
theorem inX9 : ∀ w ∈ u_ws RX9 TX9 3, w ∈ TW := by
  intro w hw
  obtain ⟨j, hj, rfl⟩ := List.mem_map.mp hw
  have hj := List.mem_range.mp hj
  match j, hj with
  | 0, _ => exact lyX9_0
  | 1, _ => exact lyX9_1
  | 2, _ => exact lyX9_2
  | n + 3, h => exact absurd h (by omega)
theorem lyX10_0 : u_lay RX10 TX10 0 ∈ TW := wt1 120 (by decide +kernel) (by decide +kernel)
theorem lyX10_1 : u_lay RX10 TX10 1 ∈ TW := wt1 122 (by decide +kernel) (by decide +kernel)
theorem lyX10_2 : u_lay RX10 TX10 2 ∈ TW := wt1 124 (by decide +kernel) (by decide +kernel)
theorem lyX10_3 : u_lay RX10 TX10 3 ∈ TW := wt1 126 (by decide +kernel) (by decide +kernel)
theorem inX10 : ∀ w ∈ u_ws RX10 TX10 4, w ∈ TW := by
  intro w hw
  obtain ⟨j, hj, rfl⟩ := List.mem_map.mp hw
  have hj := List.mem_range.mp hj
  match j, hj with
  | 0, _ => exact lyX10_0
  | 1, _ => exact lyX10_1
  | 2, _ => exact lyX10_2
  | 3, _ => exact lyX10_3
  | n + 4, h => exact absurd h (by omega)
theorem lyX11_0 : u_lay RX11 TX11 0 ∈ TW := wt2 87 (by decide +kernel) (by decide +kernel)
theorem lyX11_1 : u_lay RX11 TX11 1 ∈ TW := wt2 89 (by decide +kernel) (by decide +kernel)
theorem lyX11_2 : u_lay RX11 TX11 2 ∈ TW := wt2 91 (by decide +kernel) (by decide +kernel)
theorem lyX11_3 : u_lay RX11 TX11 3 ∈ TW := wt2 93 (by decide +kernel) (by decide +kernel)
theorem lyX11_4 : u_lay RX11 TX11 4 ∈ TW := wt2 95 (by decide +kernel) (by decide +kernel)
theorem lyX11_5 : u_lay RX11 TX11 5 ∈ TW := wt2 97 (by decide +kernel) (by decide +kernel)
theorem lyX11_6 : u_lay RX11 TX11 6 ∈ TW := wt2 99 (by decide +kernel) (by decide +kernel)
theorem lyX11_7 : u_lay RX11 TX11 7 ∈ TW := wt2 101 (by decide +kernel) (by decide +kernel)
theorem lyX11_8 : u_lay RX11 TX11 8 ∈ TW := wt2 103 (by decide +kernel) (by decide +kernel)
theorem lyX11_9 : u_lay RX11 TX11 9 ∈ TW := wt2 105 (by decide +kernel) (by decide +kernel)
theorem lyX11_10 : u_lay RX11 TX11 10 ∈ TW := wt2 107 (by decide +kernel) (by decide +kernel)
theorem lyX11_11 : u_lay RX11 TX11 11 ∈ TW := wt2 109 (by decide +kernel) (by decide +kernel)
theorem lyX11_12 : u_lay RX11 TX11 12 ∈ TW := wt2 111 (by decide +kernel) (by decide +kernel)
theorem lyX11_13 : u_lay RX11 TX11 13 ∈ TW := wt2 113 (by decide +kernel) (by decide +kernel)
theorem lyX11_14 : u_lay RX11 TX11 14 ∈ TW := wt2 115 (by decide +kernel) (by decide +kernel)
theorem inX11 : ∀ w ∈ u_ws RX11 TX11 15, w ∈ TW := by
  intro w hw
  obtain ⟨j, hj, rfl⟩ := List.mem_map.mp hw
  have hj := List.mem_range.mp hj
  match j, hj with
  | 0, _ => exact lyX11_0
  | 1, _ => exact lyX11_1
  | 2, _ => exact lyX11_2
  | 3, _ => exact lyX11_3
  | 4, _ => exact lyX11_4
  | 5, _ => exact lyX11_5
  | 6, _ => exact lyX11_6
  | 7, _ => exact lyX11_7
  | 8, _ => exact lyX11_8
  | 9, _ => exact lyX11_9
  | 10, _ => exact lyX11_10
  | 11, _ => exact lyX11_11
  | 12, _ => exact lyX11_12
  | 13, _ => exact lyX11_13
  | 14, _ => exact lyX11_14
  | n + 15, h => exact absurd h (by omega)
theorem lyX12_0 : u_lay RX12 TX12 0 ∈ TW := wt5 149 (by decide +kernel) (by decide +kernel)
theorem lyX12_1 : u_lay RX12 TX12 1 ∈ TW := wt5 151 (by decide +kernel) (by decide +kernel)
theorem lyX12_2 : u_lay RX12 TX12 2 ∈ TW := wt5 153 (by decide +kernel) (by decide +kernel)
theorem lyX12_3 : u_lay RX12 TX12 3 ∈ TW := wt5 155 (by decide +kernel) (by decide +kernel)
theorem lyX12_4 : u_lay RX12 TX12 4 ∈ TW := wt5 157 (by decide +kernel) (by decide +kernel)
theorem lyX12_5 : u_lay RX12 TX12 5 ∈ TW := wt5 159 (by decide +kernel) (by decide +kernel)
theorem lyX12_6 : u_lay RX12 TX12 6 ∈ TW := wt5 161 (by decide +kernel) (by decide +kernel)
theorem lyX12_7 : u_lay RX12 TX12 7 ∈ TW := wt5 163 (by decide +kernel) (by decide +kernel)
theorem lyX12_8 : u_lay RX12 TX12 8 ∈ TW := wt5 165 (by decide +kernel) (by decide +kernel)
theorem lyX12_9 : u_lay RX12 TX12 9 ∈ TW := wt5 167 (by decide +kernel) (by decide +kernel)
theorem lyX12_10 : u_lay RX12 TX12 10 ∈ TW := wt5 169 (by decide +kernel) (by decide +kernel)
theorem lyX12_11 : u_lay RX12 TX12 11 ∈ TW := wt5 171 (by decide +kernel) (by decide +kernel)
theorem lyX12_12 : u_lay RX12 TX12 12 ∈ TW := wt5 173 (by decide +kernel) (by decide +kernel)
theorem lyX12_13 : u_lay RX12 TX12 13 ∈ TW := wt5 175 (by decide +kernel) (by decide +kernel)
theorem lyX12_14 : u_lay RX12 TX12 14 ∈ TW := wt5 177 (by decide +kernel) (by decide +kernel)
theorem lyX12_15 : u_lay RX12 TX12 15 ∈ TW := wt5 179 (by decide +kernel) (by decide +kernel)
theorem lyX12_16 : u_lay RX12 TX12 16 ∈ TW := wt5 181 (by decide +kernel) (by decide +kernel)
theorem lyX12_17 : u_lay RX12 TX12 17 ∈ TW := wt5 183 (by decide +kernel) (by decide +kernel)
theorem lyX12_18 : u_lay RX12 TX12 18 ∈ TW := wt5 185 (by decide +kernel) (by decide +kernel)
theorem lyX12_19 : u_lay RX12 TX12 19 ∈ TW := wt5 187 (by decide +kernel) (by decide +kernel)
theorem lyX12_20 : u_lay RX12 TX12 20 ∈ TW := wt5 189 (by decide +kernel) (by decide +kernel)
theorem lyX12_21 : u_lay RX12 TX12 21 ∈ TW := wt5 191 (by decide +kernel) (by decide +kernel)
theorem lyX12_22 : u_lay RX12 TX12 22 ∈ TW := wt5 193 (by decide +kernel) (by decide +kernel)
theorem lyX12_23 : u_lay RX12 TX12 23 ∈ TW := wt5 195 (by decide +kernel) (by decide +kernel)
theorem lyX12_24 : u_lay RX12 TX12 24 ∈ TW := wt5 197 (by decide +kernel) (by decide +kernel)
theorem lyX12_25 : u_lay RX12 TX12 25 ∈ TW := wt5 199 (by decide +kernel) (by decide +kernel)
theorem lyX12_26 : u_lay RX12 TX12 26 ∈ TW := wt5 201 (by decide +kernel) (by decide +kernel)
theorem lyX12_27 : u_lay RX12 TX12 27 ∈ TW := wt5 203 (by decide +kernel) (by decide +kernel)
theorem lyX12_28 : u_lay RX12 TX12 28 ∈ TW := wt5 205 (by decide +kernel) (by decide +kernel)
theorem lyX12_29 : u_lay RX12 TX12 29 ∈ TW := wt5 207 (by decide +kernel) (by decide +kernel)
theorem lyX12_30 : u_lay RX12 TX12 30 ∈ TW := wt5 209 (by decide +kernel) (by decide +kernel)
theorem lyX12_31 : u_lay RX12 TX12 31 ∈ TW := wt5 211 (by decide +kernel) (by decide +kernel)
theorem lyX12_32 : u_lay RX12 TX12 32 ∈ TW := wt5 213 (by decide +kernel) (by decide +kernel)
theorem lyX12_33 : u_lay RX12 TX12 33 ∈ TW := wt5 215 (by decide +kernel) (by decide +kernel)
theorem lyX12_34 : u_lay RX12 TX12 34 ∈ TW := wt5 217 (by decide +kernel) (by decide +kernel)
theorem lyX12_35 : u_lay RX12 TX12 35 ∈ TW := wt5 219 (by decide +kernel) (by decide +kernel)
theorem lyX12_36 : u_lay RX12 TX12 36 ∈ TW := wt5 221 (by decide +kernel) (by decide +kernel)
theorem lyX12_37 : u_lay RX12 TX12 37 ∈ TW := wt5 223 (by decide +kernel) (by decide +kernel)
theorem lyX12_38 : u_lay RX12 TX12 38 ∈ TW := wt5 225 (by decide +kernel) (by decide +kernel)
theorem lyX12_39 : u_lay RX12 TX12 39 ∈ TW := wt5 227 (by decide +kernel) (by decide +kernel)
theorem lyX12_40 : u_lay RX12 TX12 40 ∈ TW := wt5 229 (by decide +kernel) (by decide +kernel)
theorem lyX12_41 : u_lay RX12 TX12 41 ∈ TW := wt5 231 (by decide +kernel) (by decide +kernel)
theorem lyX12_42 : u_lay RX12 TX12 42 ∈ TW := wt5 233 (by decide +kernel) (by decide +kernel)
theorem lyX12_43 : u_lay RX12 TX12 43 ∈ TW := wt5 235 (by decide +kernel) (by decide +kernel)
theorem lyX12_44 : u_lay RX12 TX12 44 ∈ TW := wt5 237 (by decide +kernel) (by decide +kernel)
theorem lyX12_45 : u_lay RX12 TX12 45 ∈ TW := wt5 239 (by decide +kernel) (by decide +kernel)
theorem lyX12_46 : u_lay RX12 TX12 46 ∈ TW := wt6 1 (by decide +kernel) (by decide +kernel)
theorem lyX12_47 : u_lay RX12 TX12 47 ∈ TW := wt6 3 (by decide +kernel) (by decide +kernel)
theorem lyX12_48 : u_lay RX12 TX12 48 ∈ TW := wt6 5 (by decide +kernel) (by decide +kernel)
theorem lyX12_49 : u_lay RX12 TX12 49 ∈ TW := wt6 7 (by decide +kernel) (by decide +kernel)
theorem lyX12_50 : u_lay RX12 TX12 50 ∈ TW := wt6 9 (by decide +kernel) (by decide +kernel)
theorem lyX12_51 : u_lay RX12 TX12 51 ∈ TW := wt6 11 (by decide +kernel) (by decide +kernel)
theorem lyX12_52 : u_lay RX12 TX12 52 ∈ TW := wt6 13 (by decide +kernel) (by decide +kernel)
theorem lyX12_53 : u_lay RX12 TX12 53 ∈ TW := wt6 15 (by decide +kernel) (by decide +kernel)
theorem lyX12_54 : u_lay RX12 TX12 54 ∈ TW := wt6 17 (by decide +kernel) (by decide +kernel)
theorem lyX12_55 : u_lay RX12 TX12 55 ∈ TW := wt6 19 (by decide +kernel) (by decide +kernel)
theorem lyX12_56 : u_lay RX12 TX12 56 ∈ TW := wt6 21 (by decide +kernel) (by decide +kernel)
theorem lyX12_57 : u_lay RX12 TX12 57 ∈ TW := wt6 23 (by decide +kernel) (by decide +kernel)
theorem lyX12_58 : u_lay RX12 TX12 58 ∈ TW := wt6 25 (by decide +kernel) (by decide +kernel)
theorem lyX12_59 : u_lay RX12 TX12 59 ∈ TW := wt6 27 (by decide +kernel) (by decide +kernel)
theorem lyX12_60 : u_lay RX12 TX12 60 ∈ TW := wt6 29 (by decide +kernel) (by decide +kernel)
theorem lyX12_61 : u_lay RX12 TX12 61 ∈ TW := wt6 31 (by decide +kernel) (by decide +kernel)
theorem lyX12_62 : u_lay RX12 TX12 62 ∈ TW := wt6 33 (by decide +kernel) (by decide +kernel)
theorem lyX12_63 : u_lay RX12 TX12 63 ∈ TW := wt6 35 (by decide +kernel) (by decide +kernel)
theorem lyX12_64 : u_lay RX12 TX12 64 ∈ TW := wt6 37 (by decide +kernel) (by decide +kernel)
theorem lyX12_65 : u_lay RX12 TX12 65 ∈ TW := wt6 39 (by decide +kernel) (by decide +kernel)
theorem lyX12_66 : u_lay RX12 TX12 66 ∈ TW := wt6 41 (by decide +kernel) (by decide +kernel)
theorem lyX12_67 : u_lay RX12 TX12 67 ∈ TW := wt6 43 (by decide +kernel) (by decide +kernel)
theorem lyX12_68 : u_lay RX12 TX12 68 ∈ TW := wt6 45 (by decide +kernel) (by decide +kernel)
theorem lyX12_69 : u_lay RX12 TX12 69 ∈ TW := wt6 47 (by decide +kernel) (by decide +kernel)
theorem lyX12_70 : u_lay RX12 TX12 70 ∈ TW := wt6 49 (by decide +kernel) (by decide +kernel)
theorem lyX12_71 : u_lay RX12 TX12 71 ∈ TW := wt6 51 (by decide +kernel) (by decide +kernel)
theorem inX12 : ∀ w ∈ u_ws RX12 TX12 72, w ∈ TW := by
  intro w hw
  obtain ⟨j, hj, rfl⟩ := List.mem_map.mp hw
  have hj := List.mem_range.mp hj
  match j, hj with
  | 0, _ => exact lyX12_0
  | 1, _ => exact lyX12_1
  | 2, _ => exact lyX12_2
  | 3, _ => exact lyX12_3
  | 4, _ => exact lyX12_4
  | 5, _ => exact lyX12_5
  | 6, _ => exact lyX12_6
  | 7, _ => exact lyX12_7
  | 8, _ => exact lyX12_8
  | 9, _ => exact lyX12_9
  | 10, _ => exact lyX12_10
  | 11, _ => exact lyX12_11
  | 12, _ => exact lyX12_12
  | 13, _ => exact lyX12_13
  | 14, _ => exact lyX12_14
  | 15, _ => exact lyX12_15
  | 16, _ => exact lyX12_16
  | 17, _ => exact lyX12_17
  | 18, _ => exact lyX12_18
  | 19, _ => exact lyX12_19
  | 20, _ => exact lyX12_20
  | 21, _ => exact lyX12_21
  | 22, _ => exact lyX12_22
  | 23, _ => exact lyX12_23
  | 24, _ => exact lyX12_24
  | 25, _ => exact lyX12_25
  | 26, _ => exact lyX12_26
  | 27, _ => exact lyX12_27
  | 28, _ => exact lyX12_28
  | 29, _ => exact lyX12_29
  | 30, _ => exact lyX12_30
  | 31, _ => exact lyX12_31
  | 32, _ => exact lyX12_32
  | 33, _ => exact lyX12_33
  | 34, _ => exact lyX12_34
  | 35, _ => exact lyX12_35
  | 36, _ => exact lyX12_36
  | 37, _ => exact lyX12_37
  | 38, _ => exact lyX12_38
  | 39, _ => exact lyX12_39
  | 40, _ => exact lyX12_40
  | 41, _ => exact lyX12_41
  | 42, _ => exact lyX12_42
  | 43, _ => exact lyX12_43
  | 44, _ => exact lyX12_44
  | 45, _ => exact lyX12_45
  | 46, _ => exact lyX12_46
  | 47, _ => exact lyX12_47
  | 48, _ => exact lyX12_48
  | 49, _ => exact lyX12_49
  | 50, _ => exact lyX12_50
  | 51, _ => exact lyX12_51
  | 52, _ => exact lyX12_52
  | 53, _ => exact lyX12_53
  | 54, _ => exact lyX12_54
  | 55, _ => exact lyX12_55
  | 56, _ => exact lyX12_56
  | 57, _ => exact lyX12_57
  | 58, _ => exact lyX12_58
  | 59, _ => exact lyX12_59
  | 60, _ => exact lyX12_60
  | 61, _ => exact lyX12_61
  | 62, _ => exact lyX12_62
  | 63, _ => exact lyX12_63
  | 64, _ => exact lyX12_64
  | 65, _ => exact lyX12_65
  | 66, _ => exact lyX12_66
  | 67, _ => exact lyX12_67
  | 68, _ => exact lyX12_68
  | 69, _ => exact lyX12_69
  | 70, _ => exact lyX12_70
  | 71, _ => exact lyX12_71
  | n + 72, h => exact absurd h (by omega)
def fty (k s : Nat) : FieldType := match k with
  | 0 => tyX0 s
  | 1 => tyX1 s
  | 2 => tyX2 s
  | 3 => tyX3 s
  | 4 => tyX4 s
  | 5 => tyX5 s
  | 6 => tyX6 s
  | 7 => tyX7 s
  | 8 => tyX8 s
  | 9 => tyX9 s
  | 10 => tyX10 s
  | 11 => tyX11 s
  | _ => tyX12 s
end
section
/-! groups: 0 AlikeUnlike, 1 Form, 2 told, 3 laws, 4 Script, 5 codes, 6 numbers, 7 held, 8 Page, 9 letters, 10 Walker, 11 pile, 12 Spanner, 13 lows, 14 highs, 15 Search, 16 spans, 17 isShared, 18 Came, 19 people, 20 outs, 21 runs, 22 allAt, 23 letAt, 24 Person, 25 numbers, 26 Mender, 27 rows, 28 Cheapest, 29 Askings, 30 x.spans, 31 Model, 32 kinds, 33 least, 34 greatest, 35 prices, 36 page, 37 readMarks, 38 readNumbers, 39 readLines, 40 readEnds, 41 waits, 42 marks, 43 numbers, 44 lineTo, 45 lineEnd, 46 lawMany, 47 lawMarks, 48 lawNumbers, 49 sums, 50 isGone, 51 truths, 52 who, 53 oneLaw, 54 oneNumbers, 55 box, 56 stack, 57 isOne, 58 lows, 59 highs, 60 rowWho, 61 rowOut, 62 rowEnd, 63 asWas, 64 bestWho -/
def kd (g : Nat) : Nat × Nat := (bif Nat.ble g 31 then (bif Nat.ble g 15 then (bif Nat.ble g 7 then (bif Nat.ble g 3 then (bif Nat.ble g 1 then (bif Nat.ble g 0 then (11, 15) else (3, 3)) else (bif Nat.ble g 2 then (13, 32) else (17, 6))) else (bif Nat.ble g 5 then (bif Nat.ble g 4 then (7, 8) else (13, 80)) else (bif Nat.ble g 6 then (13, 80) else (13, 80)))) else (bif Nat.ble g 11 then (bif Nat.ble g 9 then (bif Nat.ble g 8 then (5, 9) else (13, 80)) else (bif Nat.ble g 10 then (10, 4) else (14, 80))) else (bif Nat.ble g 13 then (bif Nat.ble g 12 then (9, 3) else (14, 80)) else (bif Nat.ble g 14 then (14, 80) else (8, 9))))) else (bif Nat.ble g 23 then (bif Nat.ble g 19 then (bif Nat.ble g 17 then (bif Nat.ble g 16 then (13, 2592) else (15, 8)) else (bif Nat.ble g 18 then (1, 14) else (16, 24))) else (bif Nat.ble g 21 then (bif Nat.ble g 20 then (13, 24) else (13, 24)) else (bif Nat.ble g 22 then (13, 21) else (13, 21)))) else (bif Nat.ble g 27 then (bif Nat.ble g 25 then (bif Nat.ble g 24 then (6, 1) else (13, 8)) else (bif Nat.ble g 26 then (4, 6) else (13, 24))) else (bif Nat.ble g 29 then (bif Nat.ble g 28 then (2, 3) else (0, 6)) else (bif Nat.ble g 30 then (13, 16) else (12, 72)))))) else (bif Nat.ble g 47 then (bif Nat.ble g 39 then (bif Nat.ble g 35 then (bif Nat.ble g 33 then (bif Nat.ble g 32 then (13, 8) else (13, 8)) else (bif Nat.ble g 34 then (13, 8) else (13, 8))) else (bif Nat.ble g 37 then (bif Nat.ble g 36 then (13, 80) else (13, 80)) else (bif Nat.ble g 38 then (13, 80) else (13, 80)))) else (bif Nat.ble g 43 then (bif Nat.ble g 41 then (bif Nat.ble g 40 then (13, 80) else (13, 80)) else (bif Nat.ble g 42 then (13, 80) else (13, 80))) else (bif Nat.ble g 45 then (bif Nat.ble g 44 then (13, 80) else (13, 80)) else (bif Nat.ble g 46 then (13, 6) else (13, 480))))) else (bif Nat.ble g 55 then (bif Nat.ble g 51 then (bif Nat.ble g 49 then (bif Nat.ble g 48 then (13, 480) else (14, 81)) else (bif Nat.ble g 50 then (15, 81) else (13, 81))) else (bif Nat.ble g 53 then (bif Nat.ble g 52 then (13, 8) else (13, 80)) else (bif Nat.ble g 54 then (13, 80) else (13, 32)))) else (bif Nat.ble g 59 then (bif Nat.ble g 57 then (bif Nat.ble g 56 then (13, 3200) else (15, 8)) else (bif Nat.ble g 58 then (14, 81) else (14, 81))) else (bif Nat.ble g 61 then (bif Nat.ble g 60 then (13, 192) else (13, 24)) else (bif Nat.ble g 62 then (13, 24) else (bif Nat.ble g 63 then (13, 8) else (13, 8))))))))
def cnm (k : Nat) : String := match k with
  | 0 => RX0
  | 1 => RX1
  | 2 => RX2
  | 3 => RX3
  | 4 => RX4
  | 5 => RX5
  | 6 => RX6
  | 7 => RX7
  | 8 => RX8
  | 9 => RX9
  | 10 => RX10
  | 11 => RX11
  | 12 => RX12
  | 13 => RJ6
  | 14 => RJ9
  | _ => RL
def NW : List Cond := [(Jvm.Cond.methodLinkNest "AlikeUnlike$Form" (21 : Nat) ({ cls := "AlikeUnlike$Script", name := "<init>", desc := "()V" } : Jvm.MethodName) "AlikeUnlike"), (Jvm.Cond.methodLinkNest "AlikeUnlike" (18 : Nat) ({ cls := "AlikeUnlike$Page", name := "<init>", desc := "()V" } : Jvm.MethodName) "AlikeUnlike"), (Jvm.Cond.methodLinkNest "AlikeUnlike" (25 : Nat) ({ cls := "AlikeUnlike$Script", name := "<init>", desc := "()V" } : Jvm.MethodName) "AlikeUnlike"), (Jvm.Cond.methodLinkNest "AlikeUnlike" (32 : Nat) ({ cls := "AlikeUnlike$Walker", name := "<init>", desc := "()V" } : Jvm.MethodName) "AlikeUnlike"), (Jvm.Cond.methodLinkNest "AlikeUnlike" (39 : Nat) ({ cls := "AlikeUnlike$Spanner", name := "<init>", desc := "()V" } : Jvm.MethodName) "AlikeUnlike"), (Jvm.Cond.methodLinkNest "AlikeUnlike" (46 : Nat) ({ cls := "AlikeUnlike$Search", name := "<init>", desc := "()V" } : Jvm.MethodName) "AlikeUnlike"), (Jvm.Cond.methodLinkNest "AlikeUnlike$Came" (30 : Nat) ({ cls := "AlikeUnlike$Person", name := "<init>", desc := "()V" } : Jvm.MethodName) "AlikeUnlike"), (Jvm.Cond.methodLinkNest "AlikeUnlike" (60 : Nat) ({ cls := "AlikeUnlike$Mender", name := "<init>", desc := "()V" } : Jvm.MethodName) "AlikeUnlike"), (Jvm.Cond.methodLinkNest "AlikeUnlike" (67 : Nat) ({ cls := "AlikeUnlike$Cheapest", name := "<init>", desc := "()V" } : Jvm.MethodName) "AlikeUnlike"), (Jvm.Cond.methodLinkNest "AlikeUnlike$Cheapest" (11 : Nat) ({ cls := "AlikeUnlike$Person", name := "<init>", desc := "()V" } : Jvm.MethodName) "AlikeUnlike"), (Jvm.Cond.methodLinkNest "AlikeUnlike" (74 : Nat) ({ cls := "AlikeUnlike$Askings", name := "<init>", desc := "()V" } : Jvm.MethodName) "AlikeUnlike"), (Jvm.Cond.methodLinkNest "AlikeUnlike" (81 : Nat) ({ cls := "AlikeUnlike$Person", name := "<init>", desc := "()V" } : Jvm.MethodName) "AlikeUnlike"), (Jvm.Cond.methodLinkNest "AlikeUnlike$Form" (22 : Nat) ({ cls := "AlikeUnlike", name := "isField", desc := "(I)Z" } : Jvm.MethodName) "AlikeUnlike"), (Jvm.Cond.methodLinkNest "AlikeUnlike$Form" (36 : Nat) ({ cls := "AlikeUnlike", name := "bit", desc := "(Z)I" } : Jvm.MethodName) "AlikeUnlike"), (Jvm.Cond.methodLinkNest "AlikeUnlike$Page" (19 : Nat) ({ cls := "AlikeUnlike", name := "bit", desc := "(Z)I" } : Jvm.MethodName) "AlikeUnlike"), (Jvm.Cond.methodLinkNest "AlikeUnlike$Page" (69 : Nat) ({ cls := "AlikeUnlike", name := "isDigit", desc := "(I)Z" } : Jvm.MethodName) "AlikeUnlike"), (Jvm.Cond.methodLinkNest "AlikeUnlike$Page" (81 : Nat) ({ cls := "AlikeUnlike", name := "isFieldLetter", desc := "(I)Z" } : Jvm.MethodName) "AlikeUnlike"), (Jvm.Cond.methodLinkNest "AlikeUnlike$Page" (84 : Nat) ({ cls := "AlikeUnlike", name := "isComparison", desc := "(I)Z" } : Jvm.MethodName) "AlikeUnlike"), (Jvm.Cond.methodLinkNest "AlikeUnlike$Script" (54 : Nat) ({ cls := "AlikeUnlike", name := "isDigit", desc := "(I)Z" } : Jvm.MethodName) "AlikeUnlike"), (Jvm.Cond.methodLinkNest "AlikeUnlike$Script" (61 : Nat) ({ cls := "AlikeUnlike", name := "isFieldLetter", desc := "(I)Z" } : Jvm.MethodName) "AlikeUnlike"), (Jvm.Cond.methodLinkNest "AlikeUnlike$Person" (19 : Nat) ({ cls := "AlikeUnlike", name := "isField", desc := "(I)Z" } : Jvm.MethodName) "AlikeUnlike"), (Jvm.Cond.methodLinkNest "AlikeUnlike$Walker" (66 : Nat) ({ cls := "AlikeUnlike", name := "isComparison", desc := "(I)Z" } : Jvm.MethodName) "AlikeUnlike"), (Jvm.Cond.methodLinkNest "AlikeUnlike$Search" (87 : Nat) ({ cls := "AlikeUnlike", name := "isField", desc := "(I)Z" } : Jvm.MethodName) "AlikeUnlike"), (Jvm.Cond.methodLinkNest "AlikeUnlike$Spanner" (39 : Nat) ({ cls := "AlikeUnlike", name := "isField", desc := "(I)Z" } : Jvm.MethodName) "AlikeUnlike"), (Jvm.Cond.methodLinkNest "AlikeUnlike$Spanner" (59 : Nat) ({ cls := "AlikeUnlike", name := "bit", desc := "(Z)I" } : Jvm.MethodName) "AlikeUnlike"), (Jvm.Cond.methodLinkNest "AlikeUnlike$Came" (72 : Nat) ({ cls := "AlikeUnlike", name := "bit", desc := "(Z)I" } : Jvm.MethodName) "AlikeUnlike"), (Jvm.Cond.methodLinkNest "AlikeUnlike$Came" (92 : Nat) ({ cls := "AlikeUnlike", name := "choose", desc := "(II)J" } : Jvm.MethodName) "AlikeUnlike"), (Jvm.Cond.methodLinkNest "AlikeUnlike$Came" (143 : Nat) ({ cls := "AlikeUnlike", name := "lowest", desc := "(JJI)I" } : Jvm.MethodName) "AlikeUnlike"), (Jvm.Cond.methodLinkNest "AlikeUnlike$Askings" (54 : Nat) ({ cls := "AlikeUnlike", name := "bit", desc := "(Z)I" } : Jvm.MethodName) "AlikeUnlike"), (Jvm.Cond.methodLinkNest "AlikeUnlike$Mender" (83 : Nat) ({ cls := "AlikeUnlike", name := "bit", desc := "(Z)I" } : Jvm.MethodName) "AlikeUnlike"), (Jvm.Cond.methodLinkNest "AlikeUnlike$Form" (76 : Nat) ({ cls := "AlikeUnlike", name := "fold", desc := "(JJ)J" } : Jvm.MethodName) "AlikeUnlike"), (Jvm.Cond.methodLinkNest "AlikeUnlike$Came" (61 : Nat) ({ cls := "AlikeUnlike", name := "fold", desc := "(JJ)J" } : Jvm.MethodName) "AlikeUnlike"), (Jvm.Cond.methodLinkNest "AlikeUnlike$Page" (29 : Nat) ({ cls := "AlikeUnlike", name := "fold", desc := "(JJ)J" } : Jvm.MethodName) "AlikeUnlike")]
theorem NW_in : ∀ w ∈ NW, w ∈ lw_tbl := by
  intro w hw
  simp only [NW, List.mem_cons, List.not_mem_nil, or_false] at hw
  rcases hw with rfl | rfl | rfl | rfl | rfl | rfl | rfl | rfl | rfl | rfl | rfl | rfl | rfl | rfl | rfl | rfl | rfl | rfl | rfl | rfl | rfl | rfl | rfl | rfl | rfl | rfl | rfl | rfl | rfl | rfl | rfl | rfl | rfl
  · exact wu1 34 (by decide +kernel)
  · exact wu1 76 (by decide +kernel)
  · exact wu1 109 (by decide +kernel)
  · exact wu1 112 (by decide +kernel)
  · exact wu1 132 (by decide +kernel)
  · exact wu1 148 (by decide +kernel)
  · exact wu1 191 (by decide +kernel)
  · exact wu2 4 (by decide +kernel)
  · exact wu2 29 (by decide +kernel)
  · exact wu2 34 (by decide +kernel)
  · exact wu2 47 (by decide +kernel)
  · exact wu2 71 (by decide +kernel)
  · exact wu2 133 (by decide +kernel)
  · exact wu2 146 (by decide +kernel)
  · exact wu2 184 (by decide +kernel)
  · exact wu2 225 (by decide +kernel)
  · exact wu2 228 (by decide +kernel)
  · exact wu2 239 (by decide +kernel)
  · exact wu3 24 (by decide +kernel)
  · exact wu3 41 (by decide +kernel)
  · exact wu3 81 (by decide +kernel)
  · exact wu3 98 (by decide +kernel)
  · exact wu3 191 (by decide +kernel)
  · exact wu3 207 (by decide +kernel)
  · exact wu3 222 (by decide +kernel)
  · exact wu4 82 (by decide +kernel)
  · exact wu4 118 (by decide +kernel)
  · exact wu4 149 (by decide +kernel)
  · exact wu4 172 (by decide +kernel)
  · exact wu4 207 (by decide +kernel)
  · exact wu5 48 (by decide +kernel)
  · exact wu5 60 (by decide +kernel)
  · exact wu5 70 (by decide +kernel)
end
section
abbrev AV : Type := Int32 ⊕ Int64 ⊕ Option (Nat × Nat)
abbrev FI : Type := Nat → Nat → Nat → Int32
abbrev FJ : Type := Nat → Nat → Nat → Int64
abbrev FR : Type := Nat → Nat → Nat → Option (Nat × Nat)
/-- how many of each group, int fields and rows, long fields and rows, references -/
abbrev AH : Type := (Nat → Nat) × FI × FJ × FR
/-- the ghost: what was made, where it lies, array classes, array types -/
abbrev Gh : Type := List (Nat × Nat) × (Nat × Nat → Nat) × (Nat × Nat → ClassId) × List (ClassId × FieldType)
/-- a method: name, bytes, locals, return; its class; its instructions -/
abbrev MI : Type := (MethodName × ByteArray × Nat × Option FieldType) × Nat × (Nat → Option (Instr × Nat × Nat × Nat × Int32))
def up3 {α : Type} (f : Nat → Nat → Nat → α) (g i s : Nat) (x : α) : Nat → Nat → Nat → α := fun g' => if g' = g then (fun i' => if i' = i then (fun s' => if s' = s then x else f g i s') else f g i') else f g'
def cv (ad : Nat × Nat → Nat) (v : AV) : Value := match v with
  | .inl x => .int x
  | .inr (.inl x) => .long x
  | .inr (.inr r) => va_rf (r.map ad)
def okv (G : Gh) (v : AV) : Prop := ∀ q, v = .inr (.inr (some q)) → q ∈ G.1
def lpos (ad : Nat × Nat → Nat) : Nat → List (Option AV) → List (Nat × Value)
  | _, [] => []
  | i, none :: t => lpos ad (i + 1) t
  | i, some v :: t => (i, cv ad v) :: lpos ad (i + 1) t
def tcode (t : FieldType) : Nat := match t with
  | .int => 0
  | .boolean => 1
  | .long => 2
  | _ => 3
def fvl (ad : Nat × Nat → Nat) (h : AH) (k g i s : Nat) : Value := match tcode (fty k s) with
  | 0 => .int (h.2.1 g i s)
  | 1 => .int (h.2.1 g i s)
  | 2 => .long (h.2.2.1 g i s)
  | _ => va_rf ((h.2.2.2 g i s).map ad)
def aty (k : Nat) : FieldType := match k with
  | 13 => .int
  | 14 => .long
  | 15 => .boolean
  | 16 => .object "AlikeUnlike$Person"
  | _ => .object "AlikeUnlike$Script"
def cel (G : Gh) (h : AH) (q : Nat × Nat) : va_E :=
  if (kd q.1).1 < 13 then .inr ((kd q.1).1, (List.range (kd q.1).2).map (fun s => fvl G.2.1 h (kd q.1).1 q.1 q.2 s))
  else if (kd q.1).1 = 14 then .inl (G.2.2.1 q, (kd q.1).2, .inr (.inl (h.2.2.1 q.1 q.2)))
  else if (kd q.1).1 < 16 then .inl (G.2.2.1 q, (kd q.1).2, .inl (h.2.1 q.1 q.2))
  else .inl (G.2.2.1 q, (kd q.1).2, .inr (.inr (.inr (.inr (fun j => (h.2.2.2 q.1 q.2 j).map G.2.1)))))
def gw (G : Gh) (h : AH) : va_W := G.1.map (fun q => (G.2.1 q, cel G h q))
/-- what was made is counted, references point at what was made, array cells have their classes -/
def Shp (G : Gh) (h : AH) : Prop := G.1.Nodup ∧ (∀ q : Nat × Nat, q ∈ G.1 ↔ q.2 < h.1 q.1) ∧ (∀ q ∈ G.1, ∀ s, s < (kd q.1).2 → ∀ q', h.2.2.2 q.1 q.2 s = some q' → q' ∈ G.1) ∧ (∀ q ∈ G.1, 13 ≤ (kd q.1).1 → ∃ t0 : Nat, G.2.2.2[t0]? = some (G.2.2.1 q, aty (kd q.1).1))
def Kn (D : va_G) (G : Gh) (U : State) : Prop := va_K D cls G.2.2.2 U ∧ (∀ w ∈ NW, va_Nw w U) ∧ va_AO "AlikeUnlike$Person" U ∧ va_AO "AlikeUnlike$Script" U
def Ext (G G' : Gh) : Prop := ∀ q ∈ G.1, q ∈ G'.1 ∧ G'.2.1 q = G.2.1 q
def cok (ins : Instr) (k : Int32) : Bool := match ins with
  | .bipush n => (Int8.ofInt n).toInt32 == k
  | .sipush n => (Int16.ofInt n).toInt32 == k
  | .iconst n => Int32.ofInt n == k
  | .iinc _ n => Int32.ofInt n == k
  | _ => true
def tok (ins : Instr) (pc tg : Nat) : Bool := match ins with
  | .ifCond _ off => (pc : Int) + off == (tg : Int)
  | .if_icmp _ off => (pc : Int) + off == (tg : Int)
  | .goto off => (pc : Int) + off == (tg : Int)
  | .ifnull off => (pc : Int) + off == (tg : Int)
  | .ifnonnull off => (pc : Int) + off == (tg : Int)
  | _ => true
def MOK (mt : MI) : Prop := (∀ pc ins len nx tg k, mt.2.2 pc = some (ins, len, nx, tg, k) → decode mt.1.2.1 pc = .ok (ins, len) ∧ nx = pc + len ∧ tok ins pc tg = true ∧ cok ins k = true) ∧ mt.1.1.cls = cnm mt.2.1 ∧ Cond.code mt.1.1 mt.1.2.1 mt.1.2.2.1 mt.1.2.2.2 ∈ TW ∧ plainName mt.1.1.cls = true
def Fx (mt : MI) (p : Program) (s : State) (m : MethodId) (args : Array Value) (meth : Method) (c : Code) : Prop := MOK mt ∧ p.tables.exec = Jvm.exec ∧ c.code = mt.1.2.1 ∧ meth.sig.returnType = mt.1.2.2.2 ∧ c.maxLocals = mt.1.2.2.1 ∧ s.vm.findClass (cnm mt.2.1) = some m.cls ∧ (∀ w ∈ TW, w.before args s = true) ∧ meth.locks = false ∧ meth.name = mt.1.1.name
def Iv (A : Nat → Prop) (D : va_G) (G0 G : Gh) (h : AH) (s : State) (H : Heap) (locs : List Loc) : Prop := Kn D G s ∧ (∀ q, s.heap.size ≤ q → A q) ∧ va_P D cls (gw G h) H ∧ va_D A (gw G h) ∧ va_S A s.heap H locs ∧ Shp G h ∧ Ext G0 G
def Qp (Q : Option AV → AH → Prop) (D : va_G) (G0 : Gh) (A : Nat → Prop) : Array Value → State → Outcome → State → Prop := fun _ st oc t => (∃ (r : Option AV) (h' : AH) (G' : Gh), oc = .returned (r.map (cv G'.2.1)) ∧ Q r h' ∧ (∀ x, r = some x → okv G' x) ∧ Kn D G' t ∧ va_P D cls (gw G' h') t.heap ∧ va_D A (gw G' h') ∧ Shp G' h' ∧ Ext G0 G') ∧ va_F A st t
def rmv (d kc ks : Nat) : Room := { frames := d, cells := kc, slots := ks, locals := 64 * d }
def R (d kc ks u v : Nat) (mt : MI) (pc : Nat) (L : List (Option AV)) (S : List AV) (h : AH) (Q : Option AV → AH → Prop) : Prop :=
  ∀ (l : Launch) (p : Program) (e : Env) (s : State) (m : MethodId) (args : Array Value) (below : List Frame) (meth : Method) (c : Code) (A : Nat → Prop) (D : va_G) (G0 G : Gh) (H : Heap) (locs : List Loc) (ls : Array Slot), Fx mt p s m args meth c → Iv A D G0 G h s H locs → (∀ x ∈ S, okv G x) → (∀ x, some x ∈ L → okv G x) → lv_has ls mt.1.2.2.1 (lpos G.2.1 0 L) → W p l e (rmv d kc ks) s m args below meth c H locs u v (MQ below (Qp Q D G0 A) args s kc ks A) (F0 m pc ls (S.map (cv G.2.1)))
def M (d kc ks : Nat) (mt : MI) (As : List AV) (h : AH) (Q : Option AV → AH → Prop) : Prop :=
  ∀ (l : Launch) (D : va_G) (G : Gh) (sz : Nat), (∀ x ∈ As, okv G x) → Met l mt.1.1 (.code mt.1.1 mt.1.2.1 mt.1.2.2.1 mt.1.2.2.2 :: TW) (rmv d kc ks) (fun v U => v = (As.map (cv G.2.1)).toArray ∧ U.heap.size = sz ∧ Kn D G U ∧ va_P D cls (gw G h) U.heap ∧ va_D (fun _ => True) (gw G h) ∧ Shp G h) (Qp Q D G (va_A (gw G h) sz)) kc ks (va_A (gw G h) sz)
/-! locals -/
theorem lpos_in {ad : Nat × Nat → Nat} : ∀ {L : List (Option AV)} {b k : Nat} {v : AV}, L[k]? = some (some v) → (b + k, cv ad v) ∈ lpos ad b L := by
  intro L
  induction L with
  | nil => intro b k v h; simp at h
  | cons o t ih =>
    intro b k v h
    cases k with
    | zero =>
      simp at h; subst h
      exact List.mem_cons_self
    | succ k =>
      have h1 : t[k]? = some (some v) := by simpa using h
      have h2 := ih (b := b + 1) h1
      rw [show b + (k + 1) = b + 1 + k by omega]
      cases o with
      | none => exact h2
      | some w => exact List.mem_cons_of_mem _ h2
theorem lpos_of {ad : Nat × Nat → Nat} : ∀ {L : List (Option AV)} {b : Nat} {q : Nat × Value}, q ∈ lpos ad b L → ∃ k v, L[k]? = some (some v) ∧ q = (b + k, cv ad v) := by
  intro L
  induction L with
  | nil => intro b q h; simp [lpos] at h
  | cons o t ih =>
    intro b q h
    cases o with
    | none =>
      obtain ⟨k, v, h1, h2⟩ := ih (b := b + 1) h
      exact ⟨k + 1, v, by simpa using h1, by rw [h2, show b + 1 + k = b + (k + 1) by omega]⟩
    | some w =>
      rcases List.mem_cons.mp h with h | h
      · exact ⟨0, w, by simp, h⟩
      · obtain ⟨k, v, h1, h2⟩ := ih (b := b + 1) h
        exact ⟨k + 1, v, by simpa using h1, by rw [h2, show b + 1 + k = b + (k + 1) by omega]⟩
theorem lvh_mono {ls : Array Slot} {n : Nat} {l l' : List (Nat × Value)} (h : lv_has ls n l) (hs : ∀ q ∈ l', q ∈ l) : lv_has ls n l' := ⟨h.1, h.2.1, fun q hq => h.2.2 q (hs q hq)⟩
theorem lvh_at {ls : Array Slot} {n : Nat} {ad : Nat × Nat → Nat} {L : List (Option AV)} (h : lv_has ls n (lpos ad 0 L)) {k : Nat} {v : AV} (hk : L[k]? = some (some v)) : ls[k]? = some (.val (cv ad v)) := by
  have h1 := h.2.2 _ (lpos_in (ad := ad) (b := 0) hk)
  simpa using h1
def isL (o : Option AV) : Bool := match o with
  | some (.inr (.inl _)) => true
  | _ => false
/-- a store of one word -/
def stL : List (Option AV) → Nat → AV → List (Option AV)
  | [], _, _ => []
  | _ :: t, 0, v => some v :: t
  | o :: t, i + 1, v => (if isL o && Nat.beq i 0 then none else o) :: stL t i v
def noneHd : List (Option AV) → List (Option AV)
  | [] => []
  | _ :: t => none :: t
/-- a store of two words -/
def stL2 : List (Option AV) → Nat → AV → List (Option AV)
  | [], _, _ => []
  | _ :: t, 0, v => some v :: noneHd t
  | o :: t, i + 1, v => (if isL o && Nat.beq i 0 then none else o) :: stL2 t i v
theorem cv_cat {ad : Nat × Nat → Nat} {v : AV} : ((cv ad v).category = 2) = (isL (some v) = true) := by
  rcases v with x | x | r
  · simp [cv, isL, Value.category]
  · simp [cv, isL, Value.category]
  · cases r <;> simp [cv, isL, Value.category, va_rf]
theorem stL_at : ∀ {L : List (Option AV)} {i k : Nat} {v w : AV}, (stL L i v)[k]? = some (some w) → (k = i ∧ w = v) ∨ (k ≠ i ∧ L[k]? = some (some w) ∧ ¬ (k + 1 = i ∧ isL (some w) = true)) := by
  intro L
  induction L with
  | nil => intro i k v w h; simp [stL] at h
  | cons o t ih =>
    intro i k v w h
    cases i with
    | zero =>
      cases k with
      | zero => simp [stL] at h; exact Or.inl ⟨rfl, h.symm⟩
      | succ k => simp [stL] at h; exact Or.inr ⟨by omega, by simpa using h, by omega⟩
    | succ i =>
      cases k with
      | zero =>
        simp only [stL, List.getElem?_cons_zero, Option.some.injEq] at h
        split at h
        · cases h
        · rename_i hc
          subst h
          refine Or.inr ⟨by omega, by simp, fun hh => hc ?_⟩
          have : i = 0 := by omega
          subst this
          simp [hh.2]
      | succ k =>
        have h1 : (stL t i v)[k]? = some (some w) := by simpa [stL] using h
        rcases ih h1 with ⟨a, b⟩ | ⟨a, b, c⟩
        · exact Or.inl ⟨by omega, b⟩
        · exact Or.inr ⟨by omega, by simpa using b, fun hh => c ⟨by omega, hh.2⟩⟩
theorem noneHd_at {t : List (Option AV)} {k : Nat} {w : AV} (h : (noneHd t)[k]? = some (some w)) : k ≠ 0 ∧ t[k]? = some (some w) := by
  cases t with
  | nil => simp [noneHd] at h
  | cons o t =>
    cases k with
    | zero => simp [noneHd] at h
    | succ k => exact ⟨by omega, by simpa [noneHd] using h⟩
theorem stL2_at : ∀ {L : List (Option AV)} {i k : Nat} {v w : AV}, (stL2 L i v)[k]? = some (some w) → (k = i ∧ w = v) ∨ (k ≠ i ∧ k ≠ i + 1 ∧ L[k]? = some (some w) ∧ ¬ (k + 1 = i ∧ isL (some w) = true)) := by
  intro L
  induction L with
  | nil => intro i k v w h; simp [stL2] at h
  | cons o t ih =>
    intro i k v w h
    cases i with
    | zero =>
      cases k with
      | zero => simp [stL2] at h; exact Or.inl ⟨rfl, h.symm⟩
      | succ k =>
        have h1 : (noneHd t)[k]? = some (some w) := by simpa [stL2] using h
        have h2 := noneHd_at h1
        exact Or.inr ⟨by omega, by omega, by simpa using h2.2, by omega⟩
    | succ i =>
      cases k with
      | zero =>
        simp only [stL2, List.getElem?_cons_zero, Option.some.injEq] at h
        split at h
        · cases h
        · rename_i hc
          subst h
          refine Or.inr ⟨by omega, by omega, by simp, fun hh => hc ?_⟩
          have : i = 0 := by omega
          subst this
          simp [hh.2]
      | succ k =>
        have h1 : (stL2 t i v)[k]? = some (some w) := by simpa [stL2] using h
        rcases ih h1 with ⟨a, b⟩ | ⟨a, a2, b, c⟩
        · exact Or.inl ⟨by omega, b⟩
        · exact Or.inr ⟨by omega, by omega, by simpa using b, fun hh => c ⟨by omega, hh.2⟩⟩
theorem lpos_stL {ad : Nat × Nat → Nat} {L : List (Option AV)} {i : Nat} {v : AV} : ∀ q ∈ lpos ad 0 (stL L i v), q ∈ (i, cv ad v) :: (lpos ad 0 L).filter (fun q => !(q.1 == i) && !(q.1 + 1 == i && q.2.category == 2)) := by
  intro q hq
  obtain ⟨k, w, h1, rfl⟩ := lpos_of hq
  rcases stL_at h1 with ⟨rfl, rfl⟩ | ⟨a, b, c⟩
  · simp
  · refine List.mem_cons_of_mem _ (List.mem_filter.mpr ⟨lpos_in b, ?_⟩)
    rw [← cv_cat (ad := ad)] at c
    simp only [Nat.zero_add, Bool.and_eq_true, Bool.not_eq_true', beq_eq_false_iff_ne, Bool.and_eq_false_iff, ne_eq]
    by_cases hk : k + 1 = i
    · exact ⟨a, Or.inr (fun z => c ⟨hk, z⟩)⟩
    · exact ⟨a, Or.inl hk⟩
theorem lpos_stL2 {ad : Nat × Nat → Nat} {L : List (Option AV)} {i : Nat} {v : AV} : ∀ q ∈ lpos ad 0 (stL2 L i v), q ∈ (i, cv ad v) :: (lpos ad 0 L).filter (fun q => !(q.1 == i) && (!(q.1 == i + 1) && !(q.1 + 1 == i && q.2.category == 2))) := by
  intro q hq
  obtain ⟨k, w, h1, rfl⟩ := lpos_of hq
  rcases stL2_at h1 with ⟨rfl, rfl⟩ | ⟨a, a2, b, c⟩
  · simp
  · refine List.mem_cons_of_mem _ (List.mem_filter.mpr ⟨lpos_in b, ?_⟩)
    rw [← cv_cat (ad := ad)] at c
    simp only [Nat.zero_add, Bool.and_eq_true, Bool.not_eq_true', beq_eq_false_iff_ne, Bool.and_eq_false_iff, ne_eq]
    by_cases hk : k + 1 = i
    · exact ⟨a, a2, Or.inr (fun z => c ⟨hk, z⟩)⟩
    · exact ⟨a, a2, Or.inl hk⟩
theorem okl_stL {G : Gh} {L : List (Option AV)} {i : Nat} {v : AV} (hL : ∀ x, some x ∈ L → okv G x) (hv : okv G v) : ∀ x, some x ∈ stL L i v → okv G x := by
  intro x hx
  obtain ⟨k, hk⟩ := List.getElem?_of_mem hx
  rcases stL_at hk with ⟨-, rfl⟩ | ⟨-, b, -⟩
  · exact hv
  · exact hL x (List.mem_of_getElem? b)
theorem okl_stL2 {G : Gh} {L : List (Option AV)} {i : Nat} {v : AV} (hL : ∀ x, some x ∈ L → okv G x) (hv : okv G v) : ∀ x, some x ∈ stL2 L i v → okv G x := by
  intro x hx
  obtain ⟨k, hk⟩ := List.getElem?_of_mem hx
  rcases stL2_at hk with ⟨-, rfl⟩ | ⟨-, -, b, -⟩
  · exact hv
  · exact hL x (List.mem_of_getElem? b)
theorem okv_i {G : Gh} {x : Int32} : okv G (.inl x) := fun _ h => by cases h
theorem okv_l {G : Gh} {x : Int64} : okv G (.inr (.inl x)) := fun _ h => by cases h
theorem okv_n {G : Gh} : okv G (.inr (.inr none)) := fun _ h => by cases h
end
section
theorem ok_tl {G : Gh} {a : AV} {S : List AV} (h : ∀ x ∈ a :: S, okv G x) : ∀ x ∈ S, okv G x := (List.forall_mem_cons.mp h).2
theorem ok_hd {G : Gh} {a : AV} {S : List AV} (h : ∀ x ∈ a :: S, okv G x) : okv G a := (List.forall_mem_cons.mp h).1
theorem ok_cs {G : Gh} {a : AV} {S : List AV} (ha : okv G a) (h : ∀ x ∈ S, okv G x) : ∀ x ∈ a :: S, okv G x := List.forall_mem_cons.mpr ⟨ha, h⟩
theorem ld_at {L : List (Option AV)} {G : Gh} {k : Nat} {w : AV} (hL : ∀ x, some x ∈ L → okv G x) (hk : L[k]? = some (some w)) : okv G w := hL w (List.mem_of_getElem? hk)

section RU
variable {d kc ks u v : Nat} {mt : MI} {pc nx tg : Nat} {k0 : Int32} {L : List (Option AV)} {S : List AV} {h : AH} {Q : Option AV → AH → Prop}

theorem s_iadd {x y : Int32} (hp : mt.2.2 pc = some (.iadd, 1, nx, tg, k0)) (k : R d kc ks u v mt nx L (.inl (x + y) :: S) h Q) : R d kc ks u v mt pc L (.inl y :: .inl x :: S) h Q := by
  intro l p e s m args below meth c A D G0 G H locs ls F I hS hL hl
  obtain ⟨hm, hx, hb, hr, hml, hown, hts, hlk, hnm⟩ := id F
  obtain ⟨hdg, hnx, htg, hck⟩ := hm.1 _ _ _ _ _ _ hp
  subst hnx
  exact lv_iadd hx hb hdg (k l p e s m args below meth c A D G0 G H locs ls F I (ok_cs okv_i (ok_tl (ok_tl hS))) hL hl)

theorem s_isub {x y : Int32} (hp : mt.2.2 pc = some (.isub, 1, nx, tg, k0)) (k : R d kc ks u v mt nx L (.inl (x - y) :: S) h Q) : R d kc ks u v mt pc L (.inl y :: .inl x :: S) h Q := by
  intro l p e s m args below meth c A D G0 G H locs ls F I hS hL hl
  obtain ⟨hm, hx, hb, hr, hml, hown, hts, hlk, hnm⟩ := id F
  obtain ⟨hdg, hnx, htg, hck⟩ := hm.1 _ _ _ _ _ _ hp
  subst hnx
  exact lv_isub hx hb hdg (k l p e s m args below meth c A D G0 G H locs ls F I (ok_cs okv_i (ok_tl (ok_tl hS))) hL hl)

theorem s_imul {x y : Int32} (hp : mt.2.2 pc = some (.imul, 1, nx, tg, k0)) (k : R d kc ks u v mt nx L (.inl (x * y) :: S) h Q) : R d kc ks u v mt pc L (.inl y :: .inl x :: S) h Q := by
  intro l p e s m args below meth c A D G0 G H locs ls F I hS hL hl
  obtain ⟨hm, hx, hb, hr, hml, hown, hts, hlk, hnm⟩ := id F
  obtain ⟨hdg, hnx, htg, hck⟩ := hm.1 _ _ _ _ _ _ hp
  subst hnx
  exact lv_imul hx hb hdg (k l p e s m args below meth c A D G0 G H locs ls F I (ok_cs okv_i (ok_tl (ok_tl hS))) hL hl)

theorem s_iand {x y : Int32} (hp : mt.2.2 pc = some (.iand, 1, nx, tg, k0)) (k : R d kc ks u v mt nx L (.inl (x &&& y) :: S) h Q) : R d kc ks u v mt pc L (.inl y :: .inl x :: S) h Q := by
  intro l p e s m args below meth c A D G0 G H locs ls F I hS hL hl
  obtain ⟨hm, hx, hb, hr, hml, hown, hts, hlk, hnm⟩ := id F
  obtain ⟨hdg, hnx, htg, hck⟩ := hm.1 _ _ _ _ _ _ hp
  subst hnx
  exact lv_iand hx hb hdg (k l p e s m args below meth c A D G0 G H locs ls F I (ok_cs okv_i (ok_tl (ok_tl hS))) hL hl)

theorem s_ior {x y : Int32} (hp : mt.2.2 pc = some (.ior, 1, nx, tg, k0)) (k : R d kc ks u v mt nx L (.inl (x ||| y) :: S) h Q) : R d kc ks u v mt pc L (.inl y :: .inl x :: S) h Q := by
  intro l p e s m args below meth c A D G0 G H locs ls F I hS hL hl
  obtain ⟨hm, hx, hb, hr, hml, hown, hts, hlk, hnm⟩ := id F
  obtain ⟨hdg, hnx, htg, hck⟩ := hm.1 _ _ _ _ _ _ hp
  subst hnx
  exact lv_ior hx hb hdg (k l p e s m args below meth c A D G0 G H locs ls F I (ok_cs okv_i (ok_tl (ok_tl hS))) hL hl)

theorem s_ixor {x y : Int32} (hp : mt.2.2 pc = some (.ixor, 1, nx, tg, k0)) (k : R d kc ks u v mt nx L (.inl (x ^^^ y) :: S) h Q) : R d kc ks u v mt pc L (.inl y :: .inl x :: S) h Q := by
  intro l p e s m args below meth c A D G0 G H locs ls F I hS hL hl
  obtain ⟨hm, hx, hb, hr, hml, hown, hts, hlk, hnm⟩ := id F
  obtain ⟨hdg, hnx, htg, hck⟩ := hm.1 _ _ _ _ _ _ hp
  subst hnx
  exact lv_ixor hx hb hdg (k l p e s m args below meth c A D G0 G H locs ls F I (ok_cs okv_i (ok_tl (ok_tl hS))) hL hl)

theorem s_ishl {x y : Int32} (hp : mt.2.2 pc = some (.ishl, 1, nx, tg, k0)) (k : R d kc ks u v mt nx L (.inl (x <<< (y &&& 31)) :: S) h Q) : R d kc ks u v mt pc L (.inl y :: .inl x :: S) h Q := by
  intro l p e s m args below meth c A D G0 G H locs ls F I hS hL hl
  obtain ⟨hm, hx, hb, hr, hml, hown, hts, hlk, hnm⟩ := id F
  obtain ⟨hdg, hnx, htg, hck⟩ := hm.1 _ _ _ _ _ _ hp
  subst hnx
  exact lv_ishl hx hb hdg (k l p e s m args below meth c A D G0 G H locs ls F I (ok_cs okv_i (ok_tl (ok_tl hS))) hL hl)

theorem s_ishr {x y : Int32} (hp : mt.2.2 pc = some (.ishr, 1, nx, tg, k0)) (k : R d kc ks u v mt nx L (.inl (x >>> (y &&& 31)) :: S) h Q) : R d kc ks u v mt pc L (.inl y :: .inl x :: S) h Q := by
  intro l p e s m args below meth c A D G0 G H locs ls F I hS hL hl
  obtain ⟨hm, hx, hb, hr, hml, hown, hts, hlk, hnm⟩ := id F
  obtain ⟨hdg, hnx, htg, hck⟩ := hm.1 _ _ _ _ _ _ hp
  subst hnx
  exact lv_ishr hx hb hdg (k l p e s m args below meth c A D G0 G H locs ls F I (ok_cs okv_i (ok_tl (ok_tl hS))) hL hl)

theorem s_iushr {x y : Int32} (hp : mt.2.2 pc = some (.iushr, 1, nx, tg, k0)) (k : R d kc ks u v mt nx L (.inl (x.toUInt32 >>> (y.toUInt32 &&& Int32.toUInt32 31)).toInt32 :: S) h Q) : R d kc ks u v mt pc L (.inl y :: .inl x :: S) h Q := by
  intro l p e s m args below meth c A D G0 G H locs ls F I hS hL hl
  obtain ⟨hm, hx, hb, hr, hml, hown, hts, hlk, hnm⟩ := id F
  obtain ⟨hdg, hnx, htg, hck⟩ := hm.1 _ _ _ _ _ _ hp
  subst hnx
  exact lv_iushr hx hb hdg rfl (k l p e s m args below meth c A D G0 G H locs ls F I (ok_cs okv_i (ok_tl (ok_tl hS))) hL hl)

theorem s_idiv {x y : Int32} (hp : mt.2.2 pc = some (.idiv, 1, nx, tg, k0)) (hne : ¬ y = 0) (k : R d kc ks u v mt nx L (.inl (x / y) :: S) h Q) : R d kc ks u v mt pc L (.inl y :: .inl x :: S) h Q := by
  intro l p e s m args below meth c A D G0 G H locs ls F I hS hL hl
  obtain ⟨hm, hx, hb, hr, hml, hown, hts, hlk, hnm⟩ := id F
  obtain ⟨hdg, hnx, htg, hck⟩ := hm.1 _ _ _ _ _ _ hp
  subst hnx
  exact lv_idiv hx hb hdg hne (k l p e s m args below meth c A D G0 G H locs ls F I (ok_cs okv_i (ok_tl (ok_tl hS))) hL hl)

theorem s_irem {x y : Int32} (hp : mt.2.2 pc = some (.irem, 1, nx, tg, k0)) (hne : ¬ y = 0) (k : R d kc ks u v mt nx L (.inl (x - x / y * y) :: S) h Q) : R d kc ks u v mt pc L (.inl y :: .inl x :: S) h Q := by
  intro l p e s m args below meth c A D G0 G H locs ls F I hS hL hl
  obtain ⟨hm, hx, hb, hr, hml, hown, hts, hlk, hnm⟩ := id F
  obtain ⟨hdg, hnx, htg, hck⟩ := hm.1 _ _ _ _ _ _ hp
  subst hnx
  exact lv_irem hx hb hdg hne (k l p e s m args below meth c A D G0 G H locs ls F I (ok_cs okv_i (ok_tl (ok_tl hS))) hL hl)

theorem s_ladd {x y : Int64} (hp : mt.2.2 pc = some (.ladd, 1, nx, tg, k0)) (k : R d kc ks u v mt nx L (.inr (.inl (x + y)) :: S) h Q) : R d kc ks u v mt pc L (.inr (.inl y) :: .inr (.inl x) :: S) h Q := by
  intro l p e s m args below meth c A D G0 G H locs ls F I hS hL hl
  obtain ⟨hm, hx, hb, hr, hml, hown, hts, hlk, hnm⟩ := id F
  obtain ⟨hdg, hnx, htg, hck⟩ := hm.1 _ _ _ _ _ _ hp
  subst hnx
  exact lv_ladd hx hb hdg (k l p e s m args below meth c A D G0 G H locs ls F I (ok_cs okv_l (ok_tl (ok_tl hS))) hL hl)

theorem s_lsub {x y : Int64} (hp : mt.2.2 pc = some (.lsub, 1, nx, tg, k0)) (k : R d kc ks u v mt nx L (.inr (.inl (x - y)) :: S) h Q) : R d kc ks u v mt pc L (.inr (.inl y) :: .inr (.inl x) :: S) h Q := by
  intro l p e s m args below meth c A D G0 G H locs ls F I hS hL hl
  obtain ⟨hm, hx, hb, hr, hml, hown, hts, hlk, hnm⟩ := id F
  obtain ⟨hdg, hnx, htg, hck⟩ := hm.1 _ _ _ _ _ _ hp
  subst hnx
  exact lv_lsub hx hb hdg (k l p e s m args below meth c A D G0 G H locs ls F I (ok_cs okv_l (ok_tl (ok_tl hS))) hL hl)

theorem s_lmul {x y : Int64} (hp : mt.2.2 pc = some (.lmul, 1, nx, tg, k0)) (k : R d kc ks u v mt nx L (.inr (.inl (x * y)) :: S) h Q) : R d kc ks u v mt pc L (.inr (.inl y) :: .inr (.inl x) :: S) h Q := by
  intro l p e s m args below meth c A D G0 G H locs ls F I hS hL hl
  obtain ⟨hm, hx, hb, hr, hml, hown, hts, hlk, hnm⟩ := id F
  obtain ⟨hdg, hnx, htg, hck⟩ := hm.1 _ _ _ _ _ _ hp
  subst hnx
  exact lv_lmul hx hb hdg (k l p e s m args below meth c A D G0 G H locs ls F I (ok_cs okv_l (ok_tl (ok_tl hS))) hL hl)

theorem s_land {x y : Int64} (hp : mt.2.2 pc = some (.land, 1, nx, tg, k0)) (k : R d kc ks u v mt nx L (.inr (.inl (x &&& y)) :: S) h Q) : R d kc ks u v mt pc L (.inr (.inl y) :: .inr (.inl x) :: S) h Q := by
  intro l p e s m args below meth c A D G0 G H locs ls F I hS hL hl
  obtain ⟨hm, hx, hb, hr, hml, hown, hts, hlk, hnm⟩ := id F
  obtain ⟨hdg, hnx, htg, hck⟩ := hm.1 _ _ _ _ _ _ hp
  subst hnx
  exact lv_land hx hb hdg (k l p e s m args below meth c A D G0 G H locs ls F I (ok_cs okv_l (ok_tl (ok_tl hS))) hL hl)

theorem s_lor {x y : Int64} (hp : mt.2.2 pc = some (.lor, 1, nx, tg, k0)) (k : R d kc ks u v mt nx L (.inr (.inl (x ||| y)) :: S) h Q) : R d kc ks u v mt pc L (.inr (.inl y) :: .inr (.inl x) :: S) h Q := by
  intro l p e s m args below meth c A D G0 G H locs ls F I hS hL hl
  obtain ⟨hm, hx, hb, hr, hml, hown, hts, hlk, hnm⟩ := id F
  obtain ⟨hdg, hnx, htg, hck⟩ := hm.1 _ _ _ _ _ _ hp
  subst hnx
  exact lv_lor hx hb hdg (k l p e s m args below meth c A D G0 G H locs ls F I (ok_cs okv_l (ok_tl (ok_tl hS))) hL hl)

theorem s_ldiv {x y : Int64} (hp : mt.2.2 pc = some (.ldiv, 1, nx, tg, k0)) (hne : ¬ y = 0) (k : R d kc ks u v mt nx L (.inr (.inl (x / y)) :: S) h Q) : R d kc ks u v mt pc L (.inr (.inl y) :: .inr (.inl x) :: S) h Q := by
  intro l p e s m args below meth c A D G0 G H locs ls F I hS hL hl
  obtain ⟨hm, hx, hb, hr, hml, hown, hts, hlk, hnm⟩ := id F
  obtain ⟨hdg, hnx, htg, hck⟩ := hm.1 _ _ _ _ _ _ hp
  subst hnx
  exact lv_ldiv hx hb hdg hne (k l p e s m args below meth c A D G0 G H locs ls F I (ok_cs okv_l (ok_tl (ok_tl hS))) hL hl)

theorem s_lrem {x y : Int64} (hp : mt.2.2 pc = some (.lrem, 1, nx, tg, k0)) (hne : ¬ y = 0) (k : R d kc ks u v mt nx L (.inr (.inl (x - x / y * y)) :: S) h Q) : R d kc ks u v mt pc L (.inr (.inl y) :: .inr (.inl x) :: S) h Q := by
  intro l p e s m args below meth c A D G0 G H locs ls F I hS hL hl
  obtain ⟨hm, hx, hb, hr, hml, hown, hts, hlk, hnm⟩ := id F
  obtain ⟨hdg, hnx, htg, hck⟩ := hm.1 _ _ _ _ _ _ hp
  subst hnx
  exact lv_lrem hx hb hdg hne (k l p e s m args below meth c A D G0 G H locs ls F I (ok_cs okv_l (ok_tl (ok_tl hS))) hL hl)

theorem s_lshl {x : Int64} {y : Int32} (hp : mt.2.2 pc = some (.lshl, 1, nx, tg, k0)) (k : R d kc ks u v mt nx L (.inr (.inl (x <<< (y.toInt64 &&& 63))) :: S) h Q) : R d kc ks u v mt pc L (.inl y :: .inr (.inl x) :: S) h Q := by
  intro l p e s m args below meth c A D G0 G H locs ls F I hS hL hl
  obtain ⟨hm, hx, hb, hr, hml, hown, hts, hlk, hnm⟩ := id F
  obtain ⟨hdg, hnx, htg, hck⟩ := hm.1 _ _ _ _ _ _ hp
  subst hnx
  exact lv_lshl hx hb hdg rfl (k l p e s m args below meth c A D G0 G H locs ls F I (ok_cs okv_l (ok_tl (ok_tl hS))) hL hl)

theorem s_lushr {x : Int64} {y : Int32} (hp : mt.2.2 pc = some (.lushr, 1, nx, tg, k0)) (k : R d kc ks u v mt nx L (.inr (.inl (x.toUInt64 >>> (y.toInt64.toUInt64 &&& Int64.toUInt64 63)).toInt64) :: S) h Q) : R d kc ks u v mt pc L (.inl y :: .inr (.inl x) :: S) h Q := by
  intro l p e s m args below meth c A D G0 G H locs ls F I hS hL hl
  obtain ⟨hm, hx, hb, hr, hml, hown, hts, hlk, hnm⟩ := id F
  obtain ⟨hdg, hnx, htg, hck⟩ := hm.1 _ _ _ _ _ _ hp
  subst hnx
  exact lv_lushr hx hb hdg rfl (k l p e s m args below meth c A D G0 G H locs ls F I (ok_cs okv_l (ok_tl (ok_tl hS))) hL hl)

theorem s_lcmp {x y : Int64} (hp : mt.2.2 pc = some (.lcmp, 1, nx, tg, k0)) (k : R d kc ks u v mt nx L (.inl (lg_cmp x y) :: S) h Q) : R d kc ks u v mt pc L (.inr (.inl y) :: .inr (.inl x) :: S) h Q := by
  intro l p e s m args below meth c A D G0 G H locs ls F I hS hL hl
  obtain ⟨hm, hx, hb, hr, hml, hown, hts, hlk, hnm⟩ := id F
  obtain ⟨hdg, hnx, htg, hck⟩ := hm.1 _ _ _ _ _ _ hp
  subst hnx
  exact W.lcmp hx hb hdg (k l p e s m args below meth c A D G0 G H locs ls F I (ok_cs okv_i (ok_tl (ok_tl hS))) hL hl)

theorem s_ineg {x : Int32} (hp : mt.2.2 pc = some (.ineg, 1, nx, tg, k0)) (k : R d kc ks u v mt nx L (.inl (-x) :: S) h Q) : R d kc ks u v mt pc L (.inl x :: S) h Q := by
  intro l p e s m args below meth c A D G0 G H locs ls F I hS hL hl
  obtain ⟨hm, hx, hb, hr, hml, hown, hts, hlk, hnm⟩ := id F
  obtain ⟨hdg, hnx, htg, hck⟩ := hm.1 _ _ _ _ _ _ hp
  subst hnx
  exact lv_ineg hx hb hdg (k l p e s m args below meth c A D G0 G H locs ls F I (ok_cs okv_i (ok_tl hS)) hL hl)

theorem s_i2l {x : Int32} (hp : mt.2.2 pc = some (.i2l, 1, nx, tg, k0)) (k : R d kc ks u v mt nx L (.inr (.inl x.toInt64) :: S) h Q) : R d kc ks u v mt pc L (.inl x :: S) h Q := by
  intro l p e s m args below meth c A D G0 G H locs ls F I hS hL hl
  obtain ⟨hm, hx, hb, hr, hml, hown, hts, hlk, hnm⟩ := id F
  obtain ⟨hdg, hnx, htg, hck⟩ := hm.1 _ _ _ _ _ _ hp
  subst hnx
  exact lv_i2l hx hb hdg rfl (k l p e s m args below meth c A D G0 G H locs ls F I (ok_cs okv_l (ok_tl hS)) hL hl)

theorem s_l2i {x : Int64} (hp : mt.2.2 pc = some (.l2i, 1, nx, tg, k0)) (k : R d kc ks u v mt nx L (.inl x.toInt32 :: S) h Q) : R d kc ks u v mt pc L (.inr (.inl x) :: S) h Q := by
  intro l p e s m args below meth c A D G0 G H locs ls F I hS hL hl
  obtain ⟨hm, hx, hb, hr, hml, hown, hts, hlk, hnm⟩ := id F
  obtain ⟨hdg, hnx, htg, hck⟩ := hm.1 _ _ _ _ _ _ hp
  subst hnx
  exact lv_l2i hx hb hdg rfl (k l p e s m args below meth c A D G0 G H locs ls F I (ok_cs okv_i (ok_tl hS)) hL hl)

theorem s_iconst {n : Int} (hp : mt.2.2 pc = some (.iconst n, 1, nx, tg, k0)) (k : R d kc ks u v mt nx L (.inl k0 :: S) h Q) : R d kc ks u v mt pc L (S) h Q := by
  intro l p e s m args below meth c A D G0 G H locs ls F I hS hL hl
  obtain ⟨hm, hx, hb, hr, hml, hown, hts, hlk, hnm⟩ := id F
  obtain ⟨hdg, hnx, htg, hck⟩ := hm.1 _ _ _ _ _ _ hp
  subst hnx
  exact lv_iconst hx hb hdg (by simpa [cok] using hck) (k l p e s m args below meth c A D G0 G H locs ls F I (ok_cs okv_i hS) hL hl)

theorem s_bipush {n : Int} (hp : mt.2.2 pc = some (.bipush n, 2, nx, tg, k0)) (k : R d kc ks u v mt nx L (.inl k0 :: S) h Q) : R d kc ks u v mt pc L (S) h Q := by
  intro l p e s m args below meth c A D G0 G H locs ls F I hS hL hl
  obtain ⟨hm, hx, hb, hr, hml, hown, hts, hlk, hnm⟩ := id F
  obtain ⟨hdg, hnx, htg, hck⟩ := hm.1 _ _ _ _ _ _ hp
  subst hnx
  exact lv_bipush hx hb hdg (by simpa [cok] using hck) (k l p e s m args below meth c A D G0 G H locs ls F I (ok_cs okv_i hS) hL hl)

theorem s_sipush {n : Int} (hp : mt.2.2 pc = some (.sipush n, 3, nx, tg, k0)) (k : R d kc ks u v mt nx L (.inl k0 :: S) h Q) : R d kc ks u v mt pc L (S) h Q := by
  intro l p e s m args below meth c A D G0 G H locs ls F I hS hL hl
  obtain ⟨hm, hx, hb, hr, hml, hown, hts, hlk, hnm⟩ := id F
  obtain ⟨hdg, hnx, htg, hck⟩ := hm.1 _ _ _ _ _ _ hp
  subst hnx
  exact lv_sipush hx hb hdg (by simpa [cok] using hck) (k l p e s m args below meth c A D G0 G H locs ls F I (ok_cs okv_i hS) hL hl)

theorem s_lconst {n : Fin 2} {z : Int64} (hp : mt.2.2 pc = some (.lconst n, 1, nx, tg, k0)) (hz : Int64.ofNat (n : Nat) = z) (k : R d kc ks u v mt nx L (.inr (.inl z) :: S) h Q) : R d kc ks u v mt pc L (S) h Q := by
  intro l p e s m args below meth c A D G0 G H locs ls F I hS hL hl
  obtain ⟨hm, hx, hb, hr, hml, hown, hts, hlk, hnm⟩ := id F
  obtain ⟨hdg, hnx, htg, hck⟩ := hm.1 _ _ _ _ _ _ hp
  subst hnx
  exact lv_lconst hx hb hdg hz (k l p e s m args below meth c A D G0 G H locs ls F I (ok_cs okv_l hS) hL hl)

theorem s_null (hp : mt.2.2 pc = some (.aconst_null, 1, nx, tg, k0)) (k : R d kc ks u v mt nx L (.inr (.inr none) :: S) h Q) : R d kc ks u v mt pc L (S) h Q := by
  intro l p e s m args below meth c A D G0 G H locs ls F I hS hL hl
  obtain ⟨hm, hx, hb, hr, hml, hown, hts, hlk, hnm⟩ := id F
  obtain ⟨hdg, hnx, htg, hck⟩ := hm.1 _ _ _ _ _ _ hp
  subst hnx
  exact lv_null hx hb hdg (k l p e s m args below meth c A D G0 G H locs ls F I (ok_cs okv_n hS) hL hl)

theorem s_ldc2 {i : Nat} {z : Int64} (hp : mt.2.2 pc = some (.ldc2_w i, 3, nx, tg, k0)) (hz : Cond.constantLong (cnm mt.2.1) i z ∈ TW) (k : R d kc ks u v mt nx L (.inr (.inl z) :: S) h Q) : R d kc ks u v mt pc L (S) h Q := by
  intro l p e s m args below meth c A D G0 G H locs ls F I hS hL hl
  obtain ⟨hm, hx, hb, hr, hml, hown, hts, hlk, hnm⟩ := id F
  obtain ⟨hdg, hnx, htg, hck⟩ := hm.1 _ _ _ _ _ _ hp
  subst hnx
  exact lv_ldc2 hx hb hown (hts _ hz) hdg (k l p e s m args below meth c A D G0 G H locs ls F I (ok_cs okv_l hS) hL hl)

theorem s_ldcw {i : Nat} {z : Int32} (hp : mt.2.2 pc = some (.ldc_w i, 3, nx, tg, k0)) (hz : Cond.constant (cnm mt.2.1) i z ∈ TW) (k : R d kc ks u v mt nx L (.inl z :: S) h Q) : R d kc ks u v mt pc L (S) h Q := by
  intro l p e s m args below meth c A D G0 G H locs ls F I hS hL hl
  obtain ⟨hm, hx, hb, hr, hml, hown, hts, hlk, hnm⟩ := id F
  obtain ⟨hdg, hnx, htg, hck⟩ := hm.1 _ _ _ _ _ _ hp
  subst hnx
  exact lv_ldcw hx hb hown (hts _ hz) hdg (k l p e s m args below meth c A D G0 G H locs ls F I (ok_cs okv_i hS) hL hl)

theorem s_iload {i : Nat} {x : Int32} (hp : mt.2.2 pc = some (.iload i, 2, nx, tg, k0)) (hk : L[i]? = some (some (.inl x))) (k : R d kc ks u v mt nx L (.inl x :: S) h Q) : R d kc ks u v mt pc L (S) h Q := by
  intro l p e s m args below meth c A D G0 G H locs ls F I hS hL hl
  obtain ⟨hm, hx, hb, hr, hml, hown, hts, hlk, hnm⟩ := id F
  obtain ⟨hdg, hnx, htg, hck⟩ := hm.1 _ _ _ _ _ _ hp
  subst hnx
  exact lv_iload hx hb hdg (lvh_at hl hk) (k l p e s m args below meth c A D G0 G H locs ls F I (ok_cs (ld_at hL hk) hS) hL hl)

theorem s_iload_n {i : Fin 4} {x : Int32} (hp : mt.2.2 pc = some (.iload_n i, 1, nx, tg, k0)) (hk : L[(i : Nat)]? = some (some (.inl x))) (k : R d kc ks u v mt nx L (.inl x :: S) h Q) : R d kc ks u v mt pc L (S) h Q := by
  intro l p e s m args below meth c A D G0 G H locs ls F I hS hL hl
  obtain ⟨hm, hx, hb, hr, hml, hown, hts, hlk, hnm⟩ := id F
  obtain ⟨hdg, hnx, htg, hck⟩ := hm.1 _ _ _ _ _ _ hp
  subst hnx
  exact lv_iload_n hx hb hdg rfl (lvh_at hl hk) (k l p e s m args below meth c A D G0 G H locs ls F I (ok_cs (ld_at hL hk) hS) hL hl)

theorem s_lload {i : Nat} {x : Int64} (hp : mt.2.2 pc = some (.lload i, 2, nx, tg, k0)) (hk : L[i]? = some (some (.inr (.inl x)))) (k : R d kc ks u v mt nx L (.inr (.inl x) :: S) h Q) : R d kc ks u v mt pc L (S) h Q := by
  intro l p e s m args below meth c A D G0 G H locs ls F I hS hL hl
  obtain ⟨hm, hx, hb, hr, hml, hown, hts, hlk, hnm⟩ := id F
  obtain ⟨hdg, hnx, htg, hck⟩ := hm.1 _ _ _ _ _ _ hp
  subst hnx
  exact lv_lload hx hb hdg (lvh_at hl hk) (k l p e s m args below meth c A D G0 G H locs ls F I (ok_cs (ld_at hL hk) hS) hL hl)

theorem s_lload_n {i : Fin 4} {x : Int64} (hp : mt.2.2 pc = some (.lload_n i, 1, nx, tg, k0)) (hk : L[(i : Nat)]? = some (some (.inr (.inl x)))) (k : R d kc ks u v mt nx L (.inr (.inl x) :: S) h Q) : R d kc ks u v mt pc L (S) h Q := by
  intro l p e s m args below meth c A D G0 G H locs ls F I hS hL hl
  obtain ⟨hm, hx, hb, hr, hml, hown, hts, hlk, hnm⟩ := id F
  obtain ⟨hdg, hnx, htg, hck⟩ := hm.1 _ _ _ _ _ _ hp
  subst hnx
  exact lv_lload_n hx hb hdg rfl (lvh_at hl hk) (k l p e s m args below meth c A D G0 G H locs ls F I (ok_cs (ld_at hL hk) hS) hL hl)

theorem s_aload {i : Nat} {r : Option (Nat × Nat)} (hp : mt.2.2 pc = some (.aload i, 2, nx, tg, k0)) (hk : L[i]? = some (some (.inr (.inr r)))) (k : R d kc ks u v mt nx L (.inr (.inr r) :: S) h Q) : R d kc ks u v mt pc L S h Q := by
  intro l p e s m args below meth c A D G0 G H locs ls F I hS hL hl
  obtain ⟨hm, hx, hb, hr, hml, hown, hts, hlk, hnm⟩ := id F
  obtain ⟨hdg, hnx, htg, hck⟩ := hm.1 _ _ _ _ _ _ hp
  subst hnx
  have h1 := lvh_at hl hk
  have h2 := (k l p e s m args below meth c A D G0 G H locs ls F I (ok_cs (ld_at hL hk) hS) hL hl)
  cases r with
  | none => exact lv_aloadN hx hb hdg  h1 h2
  | some q => exact lv_aload hx hb hdg  h1 h2

theorem s_aload_n {i : Fin 4} {r : Option (Nat × Nat)} (hp : mt.2.2 pc = some (.aload_n i, 1, nx, tg, k0)) (hk : L[(i : Nat)]? = some (some (.inr (.inr r)))) (k : R d kc ks u v mt nx L (.inr (.inr r) :: S) h Q) : R d kc ks u v mt pc L S h Q := by
  intro l p e s m args below meth c A D G0 G H locs ls F I hS hL hl
  obtain ⟨hm, hx, hb, hr, hml, hown, hts, hlk, hnm⟩ := id F
  obtain ⟨hdg, hnx, htg, hck⟩ := hm.1 _ _ _ _ _ _ hp
  subst hnx
  have h1 := lvh_at hl hk
  have h2 := (k l p e s m args below meth c A D G0 G H locs ls F I (ok_cs (ld_at hL hk) hS) hL hl)
  cases r with
  | none => exact lv_aload_nN hx hb hdg rfl  h1 h2
  | some q => exact lv_aload_n hx hb hdg rfl  h1 h2

theorem s_istore {i : Nat} {x : Int32} (hp : mt.2.2 pc = some (.istore i, 2, nx, tg, k0)) (hi : i < mt.1.2.2.1) (k : R d kc ks u v mt nx (stL L i (.inl x)) S h Q) : R d kc ks u v mt pc L (.inl x :: S) h Q := by
  intro l p e s m args below meth c A D G0 G H locs ls F I hS hL hl
  obtain ⟨hm, hx, hb, hr, hml, hown, hts, hlk, hnm⟩ := id F
  obtain ⟨hdg, hnx, htg, hck⟩ := hm.1 _ _ _ _ _ _ hp
  subst hnx
  exact lv_istore hx hb hdg hl hi rfl (fun ls' hl' => (k l p e s m args below meth c A D G0 G H locs ls' F I (ok_tl hS) (okl_stL hL okv_i) (lvh_mono hl' (lpos_stL (v := .inl x)))))

theorem s_istore_n {i : Fin 4} {x : Int32} (hp : mt.2.2 pc = some (.istore_n i, 1, nx, tg, k0)) (hi : (i : Nat) < mt.1.2.2.1) (k : R d kc ks u v mt nx (stL L (i : Nat) (.inl x)) S h Q) : R d kc ks u v mt pc L (.inl x :: S) h Q := by
  intro l p e s m args below meth c A D G0 G H locs ls F I hS hL hl
  obtain ⟨hm, hx, hb, hr, hml, hown, hts, hlk, hnm⟩ := id F
  obtain ⟨hdg, hnx, htg, hck⟩ := hm.1 _ _ _ _ _ _ hp
  subst hnx
  exact lv_istore_n hx hb hdg rfl hl hi rfl (fun ls' hl' => (k l p e s m args below meth c A D G0 G H locs ls' F I (ok_tl hS) (okl_stL hL okv_i) (lvh_mono hl' (lpos_stL (v := .inl x)))))

theorem s_lstore {i : Nat} {x : Int64} (hp : mt.2.2 pc = some (.lstore i, 2, nx, tg, k0)) (hi : i + 1 < mt.1.2.2.1) (k : R d kc ks u v mt nx (stL2 L i (.inr (.inl x))) S h Q) : R d kc ks u v mt pc L (.inr (.inl x) :: S) h Q := by
  intro l p e s m args below meth c A D G0 G H locs ls F I hS hL hl
  obtain ⟨hm, hx, hb, hr, hml, hown, hts, hlk, hnm⟩ := id F
  obtain ⟨hdg, hnx, htg, hck⟩ := hm.1 _ _ _ _ _ _ hp
  subst hnx
  exact lv_lstore hx hb hdg hl hi rfl (fun ls' hl' => (k l p e s m args below meth c A D G0 G H locs ls' F I (ok_tl hS) (okl_stL2 hL okv_l) (lvh_mono hl' (lpos_stL2 (v := .inr (.inl x))))))

theorem s_lstore_n {i : Fin 4} {x : Int64} (hp : mt.2.2 pc = some (.lstore_n i, 1, nx, tg, k0)) (hi : (i : Nat) + 1 < mt.1.2.2.1) (k : R d kc ks u v mt nx (stL2 L (i : Nat) (.inr (.inl x))) S h Q) : R d kc ks u v mt pc L (.inr (.inl x) :: S) h Q := by
  intro l p e s m args below meth c A D G0 G H locs ls F I hS hL hl
  obtain ⟨hm, hx, hb, hr, hml, hown, hts, hlk, hnm⟩ := id F
  obtain ⟨hdg, hnx, htg, hck⟩ := hm.1 _ _ _ _ _ _ hp
  subst hnx
  exact lv_lstore_n hx hb hdg rfl hl hi rfl (fun ls' hl' => (k l p e s m args below meth c A D G0 G H locs ls' F I (ok_tl hS) (okl_stL2 hL okv_l) (lvh_mono hl' (lpos_stL2 (v := .inr (.inl x))))))

theorem s_astore {i : Nat} {r : Option (Nat × Nat)} (hp : mt.2.2 pc = some (.astore i, 2, nx, tg, k0)) (hi : i < mt.1.2.2.1) (k : R d kc ks u v mt nx (stL L i (.inr (.inr r))) S h Q) : R d kc ks u v mt pc L (.inr (.inr r) :: S) h Q := by
  intro l p e s m args below meth c A D G0 G H locs ls F I hS hL hl
  obtain ⟨hm, hx, hb, hr, hml, hown, hts, hlk, hnm⟩ := id F
  obtain ⟨hdg, hnx, htg, hck⟩ := hm.1 _ _ _ _ _ _ hp
  subst hnx
  have hk := fun ls' hl' => (k l p e s m args below meth c A D G0 G H locs ls' F I (ok_tl hS) (okl_stL hL (ok_hd hS)) (lvh_mono hl' (lpos_stL (v := .inr (.inr r)))))
  cases r with
  | none => exact lv_astoreN hx hb hdg hl hi rfl hk
  | some q => exact lv_astore hx hb hdg hl hi rfl hk

theorem s_astore_n {i : Fin 4} {r : Option (Nat × Nat)} (hp : mt.2.2 pc = some (.astore_n i, 1, nx, tg, k0)) (hi : (i : Nat) < mt.1.2.2.1) (k : R d kc ks u v mt nx (stL L (i : Nat) (.inr (.inr r))) S h Q) : R d kc ks u v mt pc L (.inr (.inr r) :: S) h Q := by
  intro l p e s m args below meth c A D G0 G H locs ls F I hS hL hl
  obtain ⟨hm, hx, hb, hr, hml, hown, hts, hlk, hnm⟩ := id F
  obtain ⟨hdg, hnx, htg, hck⟩ := hm.1 _ _ _ _ _ _ hp
  subst hnx
  have hk := fun ls' hl' => (k l p e s m args below meth c A D G0 G H locs ls' F I (ok_tl hS) (okl_stL hL (ok_hd hS)) (lvh_mono hl' (lpos_stL (v := .inr (.inr r)))))
  cases r with
  | none => exact lv_astore_nN hx hb hdg rfl hl hi rfl hk
  | some q => exact lv_astore_n hx hb hdg rfl hl hi rfl hk

theorem s_iinc {i : Nat} {n : Int} {x : Int32} (hp : mt.2.2 pc = some (.iinc i n, 3, nx, tg, k0)) (hi : i < mt.1.2.2.1) (hk : L[i]? = some (some (.inl x))) (k : R d kc ks u v mt nx (stL L i (.inl (x + k0))) S h Q) : R d kc ks u v mt pc L S h Q := by
  intro l p e s m args below meth c A D G0 G H locs ls F I hS hL hl
  obtain ⟨hm, hx, hb, hr, hml, hown, hts, hlk, hnm⟩ := id F
  obtain ⟨hdg, hnx, htg, hck⟩ := hm.1 _ _ _ _ _ _ hp
  subst hnx
  have h0 := lpos_in (ad := G.2.1) (b := 0) hk
  rw [Nat.zero_add] at h0
  obtain ⟨j, hj⟩ := List.getElem?_of_mem h0
  exact lv_iinc hx hb hdg hl hj (by have := (show Int32.ofInt n = k0 by simpa [cok] using hck); rw [this]) hi rfl (fun ls' hl' => (k l p e s m args below meth c A D G0 G H locs ls' F I hS (okl_stL hL okv_i) (lvh_mono hl' (lpos_stL (v := .inl (x + k0))))))

theorem s_dup {a : AV} (ha : isL (some a) = false) (hp : mt.2.2 pc = some (.dup, 1, nx, tg, k0)) (k : R d kc ks u v mt nx L (a :: a :: S) h Q) : R d kc ks u v mt pc L (a :: S) h Q := by
  intro l p e s m args below meth c A D G0 G H locs ls F I hS hL hl
  obtain ⟨hm, hx, hb, hr, hml, hown, hts, hlk, hnm⟩ := id F
  obtain ⟨hdg, hnx, htg, hck⟩ := hm.1 _ _ _ _ _ _ hp
  subst hnx
  exact lv_dup hx hb hdg (by rcases a with x | x | r; · rfl
                             · cases ha
                             · cases r <;> rfl) (k l p e s m args below meth c A D G0 G H locs ls F I (ok_cs (ok_hd hS) hS) hL hl)

theorem s_dup2 {x : Int32} {r : Option (Nat × Nat)} (hp : mt.2.2 pc = some (.dup2, 1, nx, tg, k0)) (k : R d kc ks u v mt nx L (.inl x :: .inr (.inr r) :: .inl x :: .inr (.inr r) :: S) h Q) : R d kc ks u v mt pc L (.inl x :: .inr (.inr r) :: S) h Q := by
  intro l p e s m args below meth c A D G0 G H locs ls F I hS hL hl
  obtain ⟨hm, hx, hb, hr, hml, hown, hts, hlk, hnm⟩ := id F
  obtain ⟨hdg, hnx, htg, hck⟩ := hm.1 _ _ _ _ _ _ hp
  subst hnx
  exact lv_dup2_11 hx hb hdg rfl (by cases r <;> rfl) (k l p e s m args below meth c A D G0 G H locs ls F I (ok_cs okv_i (ok_cs (ok_hd (ok_tl hS)) hS)) hL hl)

theorem s_pop {a : AV} (ha : isL (some a) = false) (hp : mt.2.2 pc = some (.pop, 1, nx, tg, k0)) (k : R d kc ks u v mt nx L S h Q) : R d kc ks u v mt pc L (a :: S) h Q := by
  intro l p e s m args below meth c A D G0 G H locs ls F I hS hL hl
  obtain ⟨hm, hx, hb, hr, hml, hown, hts, hlk, hnm⟩ := id F
  obtain ⟨hdg, hnx, htg, hck⟩ := hm.1 _ _ _ _ _ _ hp
  subst hnx
  exact lv_pop hx hb hdg (by rcases a with x | x | r; · rfl
                             · cases ha
                             · cases r <;> rfl) (k l p e s m args below meth c A D G0 G H locs ls F I (ok_tl hS) hL hl)

theorem s_goto {off : Int} (hp : mt.2.2 pc = some (.goto off, 3, nx, tg, k0)) (k : R d kc ks u v mt tg L S h Q) : R d kc ks u v mt pc L S h Q := by
  intro l p e s m args below meth c A D G0 G H locs ls F I hS hL hl
  obtain ⟨hm, hx, hb, hr, hml, hown, hts, hlk, hnm⟩ := id F
  obtain ⟨hdg, hnx, htg, hck⟩ := hm.1 _ _ _ _ _ _ hp
  subst hnx
  exact lv_goto hx hb hdg (by simpa [tok] using htg) (k l p e s m args below meth c A D G0 G H locs ls F I hS hL hl)

theorem s_ifnull_some {off : Int} {q : Nat × Nat} (hp : mt.2.2 pc = some (.ifnull off, 3, nx, tg, k0)) (k : R d kc ks u v mt nx L S h Q) : R d kc ks u v mt pc L (.inr (.inr (some q)) :: S) h Q := by
  intro l p e s m args below meth c A D G0 G H locs ls F I hS hL hl
  obtain ⟨hm, hx, hb, hr, hml, hown, hts, hlk, hnm⟩ := id F
  obtain ⟨hdg, hnx, htg, hck⟩ := hm.1 _ _ _ _ _ _ hp
  subst hnx
  exact lv_ifnull hx hb hdg (k l p e s m args below meth c A D G0 G H locs ls F I (ok_tl hS) hL hl)
theorem s_ifnull_none {off : Int} (hp : mt.2.2 pc = some (.ifnull off, 3, nx, tg, k0)) (k : R d kc ks u v mt tg L S h Q) : R d kc ks u v mt pc L (.inr (.inr none) :: S) h Q := by
  intro l p e s m args below meth c A D G0 G H locs ls F I hS hL hl
  obtain ⟨hm, hx, hb, hr, hml, hown, hts, hlk, hnm⟩ := id F
  obtain ⟨hdg, hnx, htg, hck⟩ := hm.1 _ _ _ _ _ _ hp
  subst hnx
  exact lv_ifnullN hx hb hdg (by simpa [tok] using htg) (k l p e s m args below meth c A D G0 G H locs ls F I (ok_tl hS) hL hl)

theorem s_ifnonnull_some {off : Int} {q : Nat × Nat} (hp : mt.2.2 pc = some (.ifnonnull off, 3, nx, tg, k0)) (k : R d kc ks u v mt tg L S h Q) : R d kc ks u v mt pc L (.inr (.inr (some q)) :: S) h Q := by
  intro l p e s m args below meth c A D G0 G H locs ls F I hS hL hl
  obtain ⟨hm, hx, hb, hr, hml, hown, hts, hlk, hnm⟩ := id F
  obtain ⟨hdg, hnx, htg, hck⟩ := hm.1 _ _ _ _ _ _ hp
  subst hnx
  exact lv_ifnonnull hx hb hdg (by simpa [tok] using htg) (k l p e s m args below meth c A D G0 G H locs ls F I (ok_tl hS) hL hl)
theorem s_ifnonnull_none {off : Int} (hp : mt.2.2 pc = some (.ifnonnull off, 3, nx, tg, k0)) (k : R d kc ks u v mt nx L S h Q) : R d kc ks u v mt pc L (.inr (.inr none) :: S) h Q := by
  intro l p e s m args below meth c A D G0 G H locs ls F I hS hL hl
  obtain ⟨hm, hx, hb, hr, hml, hown, hts, hlk, hnm⟩ := id F
  obtain ⟨hdg, hnx, htg, hck⟩ := hm.1 _ _ _ _ _ _ hp
  subst hnx
  exact lv_ifnonnullN hx hb hdg (k l p e s m args below meth c A D G0 G H locs ls F I (ok_tl hS) hL hl)

theorem s_if_eq {x : Int32} {off : Int} (hp : mt.2.2 pc = some (.ifCond .eq off, 3, nx, tg, k0)) (kt : x = 0 → R d kc ks u v mt tg L S h Q) (kf : ¬ (x = 0) → R d kc ks u v mt nx L S h Q) : R d kc ks u v mt pc L (.inl x :: S) h Q := by
  intro l p e s m args below meth c A D G0 G H locs ls F I hS hL hl
  obtain ⟨hm, hx, hb, hr, hml, hown, hts, hlk, hnm⟩ := id F
  obtain ⟨hdg, hnx, htg, hck⟩ := hm.1 _ _ _ _ _ _ hp
  subst hnx
  exact lv_if_eq hx hb hdg (by simpa [tok] using htg) (fun z => (kt z l p e s m args below meth c A D G0 G H locs ls F I (ok_tl hS) hL hl)) (fun z => (kf z l p e s m args below meth c A D G0 G H locs ls F I (ok_tl hS) hL hl))

theorem s_icmp_eq {x y : Int32} {off : Int} (hp : mt.2.2 pc = some (.if_icmp .eq off, 3, nx, tg, k0)) (kt : x = y → R d kc ks u v mt tg L S h Q) (kf : ¬ (x = y) → R d kc ks u v mt nx L S h Q) : R d kc ks u v mt pc L (.inl y :: .inl x :: S) h Q := by
  intro l p e s m args below meth c A D G0 G H locs ls F I hS hL hl
  obtain ⟨hm, hx, hb, hr, hml, hown, hts, hlk, hnm⟩ := id F
  obtain ⟨hdg, hnx, htg, hck⟩ := hm.1 _ _ _ _ _ _ hp
  subst hnx
  exact lv_icmp_eq hx hb hdg (by simpa [tok] using htg) (fun z => (kt z l p e s m args below meth c A D G0 G H locs ls F I (ok_tl (ok_tl hS)) hL hl)) (fun z => (kf z l p e s m args below meth c A D G0 G H locs ls F I (ok_tl (ok_tl hS)) hL hl))

theorem s_if_ne {x : Int32} {off : Int} (hp : mt.2.2 pc = some (.ifCond .ne off, 3, nx, tg, k0)) (kt : ¬ x = 0 → R d kc ks u v mt tg L S h Q) (kf : x = 0 → R d kc ks u v mt nx L S h Q) : R d kc ks u v mt pc L (.inl x :: S) h Q := by
  intro l p e s m args below meth c A D G0 G H locs ls F I hS hL hl
  obtain ⟨hm, hx, hb, hr, hml, hown, hts, hlk, hnm⟩ := id F
  obtain ⟨hdg, hnx, htg, hck⟩ := hm.1 _ _ _ _ _ _ hp
  subst hnx
  exact lv_if_ne hx hb hdg (by simpa [tok] using htg) (fun z => (kt z l p e s m args below meth c A D G0 G H locs ls F I (ok_tl hS) hL hl)) (fun z => (kf z l p e s m args below meth c A D G0 G H locs ls F I (ok_tl hS) hL hl))

theorem s_icmp_ne {x y : Int32} {off : Int} (hp : mt.2.2 pc = some (.if_icmp .ne off, 3, nx, tg, k0)) (kt : ¬ x = y → R d kc ks u v mt tg L S h Q) (kf : x = y → R d kc ks u v mt nx L S h Q) : R d kc ks u v mt pc L (.inl y :: .inl x :: S) h Q := by
  intro l p e s m args below meth c A D G0 G H locs ls F I hS hL hl
  obtain ⟨hm, hx, hb, hr, hml, hown, hts, hlk, hnm⟩ := id F
  obtain ⟨hdg, hnx, htg, hck⟩ := hm.1 _ _ _ _ _ _ hp
  subst hnx
  exact lv_icmp_ne hx hb hdg (by simpa [tok] using htg) (fun z => (kt z l p e s m args below meth c A D G0 G H locs ls F I (ok_tl (ok_tl hS)) hL hl)) (fun z => (kf z l p e s m args below meth c A D G0 G H locs ls F I (ok_tl (ok_tl hS)) hL hl))

theorem s_if_lt {x : Int32} {off : Int} (hp : mt.2.2 pc = some (.ifCond .lt off, 3, nx, tg, k0)) (kt : x < 0 → R d kc ks u v mt tg L S h Q) (kf : ¬ (x < 0) → R d kc ks u v mt nx L S h Q) : R d kc ks u v mt pc L (.inl x :: S) h Q := by
  intro l p e s m args below meth c A D G0 G H locs ls F I hS hL hl
  obtain ⟨hm, hx, hb, hr, hml, hown, hts, hlk, hnm⟩ := id F
  obtain ⟨hdg, hnx, htg, hck⟩ := hm.1 _ _ _ _ _ _ hp
  subst hnx
  exact lv_if_lt hx hb hdg (by simpa [tok] using htg) (fun z => (kt z l p e s m args below meth c A D G0 G H locs ls F I (ok_tl hS) hL hl)) (fun z => (kf z l p e s m args below meth c A D G0 G H locs ls F I (ok_tl hS) hL hl))

theorem s_icmp_lt {x y : Int32} {off : Int} (hp : mt.2.2 pc = some (.if_icmp .lt off, 3, nx, tg, k0)) (kt : x < y → R d kc ks u v mt tg L S h Q) (kf : ¬ (x < y) → R d kc ks u v mt nx L S h Q) : R d kc ks u v mt pc L (.inl y :: .inl x :: S) h Q := by
  intro l p e s m args below meth c A D G0 G H locs ls F I hS hL hl
  obtain ⟨hm, hx, hb, hr, hml, hown, hts, hlk, hnm⟩ := id F
  obtain ⟨hdg, hnx, htg, hck⟩ := hm.1 _ _ _ _ _ _ hp
  subst hnx
  exact lv_icmp_lt hx hb hdg (by simpa [tok] using htg) (fun z => (kt z l p e s m args below meth c A D G0 G H locs ls F I (ok_tl (ok_tl hS)) hL hl)) (fun z => (kf z l p e s m args below meth c A D G0 G H locs ls F I (ok_tl (ok_tl hS)) hL hl))

theorem s_if_ge {x : Int32} {off : Int} (hp : mt.2.2 pc = some (.ifCond .ge off, 3, nx, tg, k0)) (kt : 0 ≤ x → R d kc ks u v mt tg L S h Q) (kf : ¬ (0 ≤ x) → R d kc ks u v mt nx L S h Q) : R d kc ks u v mt pc L (.inl x :: S) h Q := by
  intro l p e s m args below meth c A D G0 G H locs ls F I hS hL hl
  obtain ⟨hm, hx, hb, hr, hml, hown, hts, hlk, hnm⟩ := id F
  obtain ⟨hdg, hnx, htg, hck⟩ := hm.1 _ _ _ _ _ _ hp
  subst hnx
  exact lv_if_ge hx hb hdg (by simpa [tok] using htg) (fun z => (kt z l p e s m args below meth c A D G0 G H locs ls F I (ok_tl hS) hL hl)) (fun z => (kf z l p e s m args below meth c A D G0 G H locs ls F I (ok_tl hS) hL hl))

theorem s_icmp_ge {x y : Int32} {off : Int} (hp : mt.2.2 pc = some (.if_icmp .ge off, 3, nx, tg, k0)) (kt : y ≤ x → R d kc ks u v mt tg L S h Q) (kf : ¬ (y ≤ x) → R d kc ks u v mt nx L S h Q) : R d kc ks u v mt pc L (.inl y :: .inl x :: S) h Q := by
  intro l p e s m args below meth c A D G0 G H locs ls F I hS hL hl
  obtain ⟨hm, hx, hb, hr, hml, hown, hts, hlk, hnm⟩ := id F
  obtain ⟨hdg, hnx, htg, hck⟩ := hm.1 _ _ _ _ _ _ hp
  subst hnx
  exact lv_icmp_ge hx hb hdg (by simpa [tok] using htg) (fun z => (kt z l p e s m args below meth c A D G0 G H locs ls F I (ok_tl (ok_tl hS)) hL hl)) (fun z => (kf z l p e s m args below meth c A D G0 G H locs ls F I (ok_tl (ok_tl hS)) hL hl))

theorem s_if_gt {x : Int32} {off : Int} (hp : mt.2.2 pc = some (.ifCond .gt off, 3, nx, tg, k0)) (kt : 0 < x → R d kc ks u v mt tg L S h Q) (kf : ¬ (0 < x) → R d kc ks u v mt nx L S h Q) : R d kc ks u v mt pc L (.inl x :: S) h Q := by
  intro l p e s m args below meth c A D G0 G H locs ls F I hS hL hl
  obtain ⟨hm, hx, hb, hr, hml, hown, hts, hlk, hnm⟩ := id F
  obtain ⟨hdg, hnx, htg, hck⟩ := hm.1 _ _ _ _ _ _ hp
  subst hnx
  exact lv_if_gt hx hb hdg (by simpa [tok] using htg) (fun z => (kt z l p e s m args below meth c A D G0 G H locs ls F I (ok_tl hS) hL hl)) (fun z => (kf z l p e s m args below meth c A D G0 G H locs ls F I (ok_tl hS) hL hl))

theorem s_icmp_gt {x y : Int32} {off : Int} (hp : mt.2.2 pc = some (.if_icmp .gt off, 3, nx, tg, k0)) (kt : y < x → R d kc ks u v mt tg L S h Q) (kf : ¬ (y < x) → R d kc ks u v mt nx L S h Q) : R d kc ks u v mt pc L (.inl y :: .inl x :: S) h Q := by
  intro l p e s m args below meth c A D G0 G H locs ls F I hS hL hl
  obtain ⟨hm, hx, hb, hr, hml, hown, hts, hlk, hnm⟩ := id F
  obtain ⟨hdg, hnx, htg, hck⟩ := hm.1 _ _ _ _ _ _ hp
  subst hnx
  exact lv_icmp_gt hx hb hdg (by simpa [tok] using htg) (fun z => (kt z l p e s m args below meth c A D G0 G H locs ls F I (ok_tl (ok_tl hS)) hL hl)) (fun z => (kf z l p e s m args below meth c A D G0 G H locs ls F I (ok_tl (ok_tl hS)) hL hl))

theorem s_if_le {x : Int32} {off : Int} (hp : mt.2.2 pc = some (.ifCond .le off, 3, nx, tg, k0)) (kt : x ≤ 0 → R d kc ks u v mt tg L S h Q) (kf : ¬ (x ≤ 0) → R d kc ks u v mt nx L S h Q) : R d kc ks u v mt pc L (.inl x :: S) h Q := by
  intro l p e s m args below meth c A D G0 G H locs ls F I hS hL hl
  obtain ⟨hm, hx, hb, hr, hml, hown, hts, hlk, hnm⟩ := id F
  obtain ⟨hdg, hnx, htg, hck⟩ := hm.1 _ _ _ _ _ _ hp
  subst hnx
  exact lv_if_le hx hb hdg (by simpa [tok] using htg) (fun z => (kt z l p e s m args below meth c A D G0 G H locs ls F I (ok_tl hS) hL hl)) (fun z => (kf z l p e s m args below meth c A D G0 G H locs ls F I (ok_tl hS) hL hl))

theorem s_icmp_le {x y : Int32} {off : Int} (hp : mt.2.2 pc = some (.if_icmp .le off, 3, nx, tg, k0)) (kt : x ≤ y → R d kc ks u v mt tg L S h Q) (kf : ¬ (x ≤ y) → R d kc ks u v mt nx L S h Q) : R d kc ks u v mt pc L (.inl y :: .inl x :: S) h Q := by
  intro l p e s m args below meth c A D G0 G H locs ls F I hS hL hl
  obtain ⟨hm, hx, hb, hr, hml, hown, hts, hlk, hnm⟩ := id F
  obtain ⟨hdg, hnx, htg, hck⟩ := hm.1 _ _ _ _ _ _ hp
  subst hnx
  exact lv_icmp_le hx hb hdg (by simpa [tok] using htg) (fun z => (kt z l p e s m args below meth c A D G0 G H locs ls F I (ok_tl (ok_tl hS)) hL hl)) (fun z => (kf z l p e s m args below meth c A D G0 G H locs ls F I (ok_tl (ok_tl hS)) hL hl))

end RU
end
section
theorem gw_at {G : Gh} {h : AH} {q : Nat × Nat} (hq : q ∈ G.1) : ∃ k : Nat, G.1[k]? = some q ∧ (gw G h)[k]? = some (G.2.1 q, cel G h q) := by
  obtain ⟨k, hk⟩ := List.getElem?_of_mem hq
  exact ⟨k, hk, by simp [gw, hk]⟩
theorem gw_set {G : Gh} {h h' : AH} {q : Nat × Nat} {k : Nat} (hn : G.1.Nodup) (hk : G.1[k]? = some q) (ho : ∀ q' ∈ G.1, q' ≠ q → cel G h' q' = cel G h q') : (gw G h).set k (G.2.1 q, cel G h' q) = gw G h' := by
  apply List.ext_getElem?
  intro j
  rw [List.getElem?_set]
  have hkl : k < G.1.length := (List.getElem?_eq_some_iff.mp hk).1
  by_cases hj : k = j
  · subst hj
    have hk2 := (List.getElem?_eq_some_iff.mp hk).2
    simp [gw, hkl, hk2]
  · simp only [hj, if_false, gw, List.getElem?_map]
    cases hjj : G.1[j]? with
    | none => rfl
    | some q' =>
      have hne : q' ≠ q := by
        intro e
        subst e
        exact hj ((List.getElem?_inj hkl hn).mp (hk.trans hjj.symm))
      simp [ho q' (List.mem_of_getElem? hjj) hne]
theorem up3_ne {α : Type} {f : Nat → Nat → Nat → α} {g i s : Nat} {x : α} {q : Nat × Nat} (hq : q ≠ (g, i)) : up3 f g i s x q.1 q.2 = f q.1 q.2 := by
  obtain ⟨a, b⟩ := q
  unfold up3
  by_cases h1 : a = g
  · subst h1
    have h2 : b ≠ i := fun e => hq (by rw [e])
    simp [h2]
  · simp [h1]
theorem up3_at {α : Type} {f : Nat → Nat → Nat → α} {g i s : Nat} {x : α} : up3 f g i s x g i = fun s' => if s' = s then x else f g i s' := by simp [up3]
theorem cel_ne {G : Gh} {h h' : AH} {q : Nat × Nat} (h1 : h'.2.1 q.1 q.2 = h.2.1 q.1 q.2) (h2 : h'.2.2.1 q.1 q.2 = h.2.2.1 q.1 q.2) (h3 : h'.2.2.2 q.1 q.2 = h.2.2.2 q.1 q.2) : cel G h' q = cel G h q := by
  unfold cel fvl
  simp only [h1, h2, h3]
theorem cel_obj {G : Gh} {h : AH} {g i k n : Nat} (hk : kd g = (k, n)) (h13 : k < 13) : cel G h (g, i) = .inr (k, (List.range n).map (fun s => fvl G.2.1 h k g i s)) := by
  simp [cel, hk, h13]
theorem cel_int {G : Gh} {h : AH} {g i n : Nat} (hk : kd g = (13, n)) : cel G h (g, i) = .inl (G.2.2.1 (g, i), n, .inl (h.2.1 g i)) := by
  simp [cel, hk]
theorem cel_bool {G : Gh} {h : AH} {g i n : Nat} (hk : kd g = (15, n)) : cel G h (g, i) = .inl (G.2.2.1 (g, i), n, .inl (h.2.1 g i)) := by
  simp [cel, hk]
theorem cel_long {G : Gh} {h : AH} {g i n : Nat} (hk : kd g = (14, n)) : cel G h (g, i) = .inl (G.2.2.1 (g, i), n, .inr (.inl (h.2.2.1 g i))) := by
  simp [cel, hk]
theorem cel_ref {G : Gh} {h : AH} {g i k n : Nat} (hk : kd g = (k, n)) (h16 : 16 ≤ k) : cel G h (g, i) = .inl (G.2.2.1 (g, i), n, .inr (.inr (.inr (.inr (fun j => (h.2.2.2 g i j).map G.2.1))))) := by
  have a1 : ¬ k < 13 := by omega
  have a2 : ¬ k = 14 := by omega
  have a3 : ¬ k < 16 := by omega
  simp [cel, hk, a1, a2, a3]
/-- a field of the class k: by the entry idx of its pool its slot is s, its type's code tc -/
def FOK (k idx s tc : Nat) : Prop := ∃ (T : u_T) (N : Nat), cls[k]? = some (cnm k, T, N) ∧ s < N ∧ (∀ w ∈ u_ws (cnm k) T N, w ∈ TW) ∧ Cond.fieldLink (cnm k) idx (cnm k) (T s).2.1 (T s).2.2.1 ∈ TW ∧ (T s).1 = cnm k ∧ tcode (fty k s) = tc ∧ (∀ j, j < N → parseFieldDescriptor (T j).2.2.1 = some (fty k j)) ∧ (∀ a, a < N → ∀ b, b < N → a ≠ b → (T a).2.1 ≠ (T b).2.1) ∧ (tc ≤ 2 → (T s).2.2.2 = false) ∧ (tc = 3 → (T s).2.2.2 = true) ∧ (tc = 1 → fty k s = .boolean) ∧ (tc = 0 → fty k s = .int) ∧ (tc = 2 → fty k s = .long) ∧ (tc = 3 → (∃ n, fty k s = .object n) ∨ ∃ t, fty k s = .array t)
def fget (h : AH) (g i s tc : Nat) : AV := match tc with
  | 0 => .inl (h.2.1 g i s)
  | 1 => .inl (h.2.1 g i s)
  | 2 => .inr (.inl (h.2.2.1 g i s))
  | _ => .inr (.inr (h.2.2.2 g i s))
theorem fget_cv {ad : Nat × Nat → Nat} {h : AH} {k g i s tc : Nat} (ht : tcode (fty k s) = tc) : fvl ad h k g i s = cv ad (fget h g i s tc) := by
  subst ht
  unfold fvl fget
  generalize tcode (fty k s) = t
  match t with
  | 0 => rfl
  | 1 => rfl
  | 2 => rfl
  | n + 3 => rfl
theorem sub_map {G : Gh} {h : AH} {k n g i s : Nat} (hs : s < n) : ((List.range n).map (fun s => fvl G.2.1 h k g i s))[s]? = some (fvl G.2.1 h k g i s) := by
  simp [hs]
section RH
variable {d kc ks u v : Nat} {mt : MI} {pc nx tg : Nat} {k0 : Int32} {L : List (Option AV)} {S : List AV} {h : AH} {Q : Option AV → AH → Prop}
theorem s_getfield {idx g i s tc n : Nat} (hp : mt.2.2 pc = some (.getfield idx, 3, nx, tg, k0)) (hf : FOK mt.2.1 idx s tc) (hk : kd g = (mt.2.1, n)) (h13 : mt.2.1 < 13) (hs : s < n)
    (k : R d kc ks u v mt nx L (fget h g i s tc :: S) h Q) : R d kc ks u v mt pc L (.inr (.inr (some (g, i))) :: S) h Q := by
  intro l p e st m args below meth c A D G0 G H locs ls F I hS hL hl
  obtain ⟨hm, hx, hb, hr, hml, hown, hts, hlk, hnm⟩ := id F
  obtain ⟨hdg, hnx, htg, hck⟩ := hm.1 _ _ _ _ _ _ hp
  subst hnx
  obtain ⟨hKn, hA, hP, hD, hSS, hSh, hE⟩ := id I
  obtain ⟨T, N, hc, hsN, hin, hlink, hown2, htc, hty, hnms, -⟩ := hf
  have hq : (g, i) ∈ G.1 := ok_hd hS _ rfl
  obtain ⟨j, hj1, hj2⟩ := gw_at (h := h) hq
  rw [cel_obj hk h13] at hj2
  have hok : okv G (fget h g i s tc) := by
    intro q hq'
    have h3 : tc = 0 ∨ tc = 1 ∨ tc = 2 ∨ 3 ≤ tc := by omega
    rcases h3 with rfl | rfl | rfl | h3
    · cases hq'
    · cases hq'
    · cases hq'
    · have : fget h g i s tc = .inr (.inr (h.2.2.2 g i s)) := by
        match tc, h3 with
        | n + 3, _ => rfl
      rw [this] at hq'
      have h4 : h.2.2.2 g i s = some q := Sum.inr.inj (Sum.inr.inj hq')
      exact hSh.2.2.1 (g, i) hq s (by rw [hk]; exact hs) q h4
  have hk' := k l p e st m args below meth c A D G0 G H locs ls F I (ok_cs hok (ok_tl hS)) hL hl
  exact va_get (D := D) (cl := cls) (C := cnm mt.2.1) (ref := cnm mt.2.1) (own := cnm mt.2.1) (T := T) (N := N) (ci := mt.2.1) hx hb hts hin hown hKn.1 hP j hj2 hc s hsN (hts _ hlink) (fun x hx => by rw [← hown2]; exact hx) (by rw [sub_map hs, fget_cv htc]) hdg hk'
theorem fvl_up_ne {ad : Nat × Nat → Nat} {h h' : AH} {k g i s : Nat} (h1 : h'.2.1 g i s = h.2.1 g i s) (h2 : h'.2.2.1 g i s = h.2.2.1 g i s) (h3 : h'.2.2.2 g i s = h.2.2.2 g i s) : fvl ad h' k g i s = fvl ad h k g i s := by
  unfold fvl
  rw [h1, h2, h3]
theorem map_set {n s : Nat} {f f' : Nat → Value} (hs : s < n) (ho : ∀ j, j ≠ s → f' j = f j) : ((List.range n).map f).set s (f' s) = (List.range n).map f' := by
  apply List.ext_getElem?
  intro j
  rw [List.getElem?_set]
  by_cases hj : s = j
  · subst hj; simp [hs]
  · simp only [hj, if_false, List.getElem?_map]
    by_cases hjn : j < n
    · simp [hjn, ho j (fun e => hj e.symm)]
    · simp [hjn]
/-- what putfield does -/
def fput (h : AH) (g i s : Nat) (x : AV) : AH := match x with
  | .inl y => (h.1, up3 h.2.1 g i s y, h.2.2.1, h.2.2.2)
  | .inr (.inl y) => (h.1, h.2.1, up3 h.2.2.1 g i s y, h.2.2.2)
  | .inr (.inr y) => (h.1, h.2.1, h.2.2.1, up3 h.2.2.2 g i s y)
theorem fput_cel {G : Gh} {h : AH} {g i s : Nat} {x : AV} : ∀ q' ∈ G.1, q' ≠ (g, i) → cel G (fput h g i s x) q' = cel G h q' := by
  intro q' _ hne
  rcases x with y | y | y
  · exact cel_ne (up3_ne hne) rfl rfl
  · exact cel_ne rfl (up3_ne hne) rfl
  · exact cel_ne rfl rfl (up3_ne hne)
theorem fput_oth {ad : Nat × Nat → Nat} {h : AH} {k g i s j : Nat} {x : AV} (hj : j ≠ s) : fvl ad (fput h g i s x) k g i j = fvl ad h k g i j := by
  rcases x with y | y | y
  · exact fvl_up_ne (by simp [fput, up3, hj]) rfl rfl
  · exact fvl_up_ne rfl (by simp [fput, up3, hj]) rfl
  · exact fvl_up_ne rfl rfl (by simp [fput, up3, hj])
def tcv (tc : Nat) (x : AV) : Prop := match x with
  | .inl y => tc = 0 ∨ (tc = 1 ∧ (y = 0 ∨ y = 1))
  | .inr (.inl _) => tc = 2
  | .inr (.inr _) => tc = 3
theorem fput_self {ad : Nat × Nat → Nat} {h : AH} {k g i s tc : Nat} {x : AV} (ht : tcode (fty k s) = tc) (hx : tcv tc x) : fvl ad (fput h g i s x) k g i s = cv ad x := by
  rw [fget_cv ht]
  rcases x with y | y | y
  · rcases hx with rfl | ⟨rfl, -⟩ <;> simp [fput, fget, up3]
  · cases hx; simp [fput, fget, up3]
  · cases hx; simp [fput, fget, up3]
theorem fput_shp {G : Gh} {h : AH} {g i s : Nat} {x : AV} (hS : Shp G h) (hx : okv G x) : Shp G (fput h g i s x) := by
  rcases x with y | y | y
  · exact hS
  · exact hS
  · refine ⟨hS.1, hS.2.1, fun q hq j hj q' hq' => ?_, hS.2.2.2⟩
    by_cases hqe : q = (g, i)
    · subst hqe
      by_cases hjs : j = s
      · subst hjs
        have : y = some q' := by simpa [fput, up3] using hq'
        exact hx q' (by rw [this])
      · exact hS.2.2.1 (g, i) hq j hj q' (by simpa [fput, up3, hjs] using hq')
    · refine hS.2.2.1 q hq j hj q' ?_
      have := up3_ne (f := h.2.2.2) (s := s) (x := y) hqe
      rw [← this]
      exact hq'
theorem s_putfield {idx g i s tc n : Nat} {x : AV} (hp : mt.2.2 pc = some (.putfield idx, 3, nx, tg, k0)) (hf : FOK mt.2.1 idx s tc) (hk : kd g = (mt.2.1, n)) (h13 : mt.2.1 < 13) (hs : s < n) (ht : tcv tc x) (hi : tc = 3 → mt.1.1.name = "<init>")
    (k : R d kc ks u v mt nx L S (fput h g i s x) Q) : R d kc ks u v mt pc L (x :: .inr (.inr (some (g, i))) :: S) h Q := by
  intro l p e st m args below meth c A D G0 G H locs ls F I hS hL hl
  obtain ⟨hm, hx, hb, hr, hml, hown, hts, hlk, hnm⟩ := id F
  obtain ⟨hdg, hnx, htg, hck⟩ := hm.1 _ _ _ _ _ _ hp
  subst hnx
  obtain ⟨hKn, hA, hP, hD, hSS, hSh, hE⟩ := id I
  obtain ⟨T, N, hc, hsN, hin, hlink, hown2, htc, hty, hnms, hnf, hfin, hb1, hb0, hb2, hb3⟩ := hf
  have hq : (g, i) ∈ G.1 := ok_hd (ok_tl hS) _ rfl
  obtain ⟨j, hj1, hj2⟩ := gw_at (h := h) hq
  have hset := gw_set (h := h) (h' := fput h g i s x) hSh.1 hj1 fput_cel
  rw [cel_obj hk h13] at hj2 hset
  have hmap := map_set (n := n) (s := s) (f := fun z => fvl G.2.1 h mt.2.1 g i z) (f' := fun z => fvl G.2.1 (fput h g i s x) mt.2.1 g i z) hs (fun z hz => fput_oth hz)
  rw [← hmap] at hset
  simp only [fput_self htc ht] at hset
  have hlen : s < ((List.range n).map (fun z => fvl G.2.1 h mt.2.1 g i z)).length := by simp [hs]
  have kk : ∀ (H1 : Heap) (locs1 : List Loc), va_P D cls ((gw G h).set j (G.2.1 (g, i), .inr (mt.2.1, ((List.range n).map (fun z => fvl G.2.1 h mt.2.1 g i z)).set s (cv G.2.1 x)))) H1 → va_D A ((gw G h).set j (G.2.1 (g, i), .inr (mt.2.1, ((List.range n).map (fun z => fvl G.2.1 h mt.2.1 g i z)).set s (cv G.2.1 x)))) → va_S A st.heap H1 locs1 → W p l e (rmv d kc ks) st m args below meth c H1 locs1 u v (MQ below (Qp Q D G0 A) args st kc ks A) (F0 m (pc + 3) ls (S.map (cv G.2.1))) := by
    intro H1 locs1 hP1 hD1 hS1
    rw [hset] at hP1 hD1
    exact k l p e st m args below meth c A D G0 G H1 locs1 ls F ⟨hKn, hA, hP1, hD1, hS1, fput_shp hSh (ok_hd hS), hE⟩ (ok_tl (ok_tl hS)) hL hl
  have hn : narrow (fty mt.2.1 s) (cv G.2.1 x) = cv G.2.1 x ∧ fits (fty mt.2.1 s) (cv G.2.1 x) = true := by
    rcases x with y | y | y
    · rcases ht with rfl | ⟨rfl, hy⟩
      · rw [hb0 rfl]; exact ⟨rfl, rfl⟩
      · rw [hb1 rfl]; rcases hy with rfl | rfl; · exact ⟨(by decide : narrow .boolean (.int 0) = .int 0), (by decide : fits .boolean (.int 0) = true)⟩
        · exact ⟨(by decide : narrow .boolean (.int 1) = .int 1), (by decide : fits .boolean (.int 1) = true)⟩
    · cases ht; rw [hb2 rfl]; exact ⟨rfl, rfl⟩
    · cases ht
      rcases hb3 rfl with ⟨nn, e1⟩ | ⟨nn, e1⟩ <;> rw [e1] <;> cases y <;> exact ⟨rfl, rfl⟩
  by_cases h3 : tc = 3
  · exact va_putF (D := D) (cl := cls) (C := cnm mt.2.1) (ref := cnm mt.2.1) (own := cnm mt.2.1) (T := T) (N := N) (ci := mt.2.1) hx hb hts hin (fty mt.2.1) hty hnms hown hKn.1 hP hD hSS j hj2 hc s hsN (hts _ hlink) (fun x hx => by rw [← hown2]; exact hx) (hfin h3) (by rw [hnm]; exact hi h3) hown2 (hty s hsN) hn.1 hn.2 hlen hdg kk
  · have h2 : tc ≤ 2 := by
      rcases x with y | y | y
      · rcases ht with rfl | ⟨rfl, -⟩ <;> omega
      · cases ht; omega
      · exact absurd ht h3
    exact va_put (D := D) (cl := cls) (C := cnm mt.2.1) (ref := cnm mt.2.1) (own := cnm mt.2.1) (T := T) (N := N) (ci := mt.2.1) hx hb hts hin (fty mt.2.1) hty hnms hown hKn.1 hP hD hSS j hj2 hc s hsN (hts _ hlink) (fun x hx => by rw [← hown2]; exact hx) (hnf h2) (hty s hsN) hn.1 hn.2 hlen hdg kk
end RH
def isNest : Cond → Bool
  | .methodLinkNest _ _ _ _ => true
  | _ => false
theorem NW_nest : NW.all isNest = true := by decide +kernel
theorem NW_warm {s U : State} (hW : s.WarmedH U.vm) (w : Cond) (hw : w ∈ NW) (h : va_Nw w s) : va_Nw w U := by
  have h1 := List.all_eq_true.mp NW_nest w hw
  cases w <;> first | (cases h1; done) | exact va_Nw.warmM hW h
theorem NW_same {s U : State} (e : s.vm = U.vm) (w : Cond) (hw : w ∈ NW) (h : va_Nw w s) : va_Nw w U := by
  have h1 := List.all_eq_true.mp NW_nest w hw
  cases w <;> first | (cases h1; done) | exact va_Nw.same rfl e h
end
section
section RA
variable {d kc ks u v : Nat} {mt : MI} {pc nx tg : Nat} {k0 : Int32} {L : List (Option AV)} {S : List AV} {h : AH} {Q : Option AV → AH → Prop}
theorem upd_fun {α : Type} {f : Nat → α} {k : Nat} {x : α} : (fun j => if j = k then x else f j) = va_up f k x := rfl
theorem s_iaload {g i n : Nat} {x : Int32} (hp : mt.2.2 pc = some (.iaload, 1, nx, tg, k0)) (hk : kd g = (13, n)) (hin : vp_in x n) (k : R d kc ks u v mt nx L (.inl (h.2.1 g i x.toNatClampNeg) :: S) h Q) : R d kc ks u v mt pc L (.inl x :: .inr (.inr (some (g, i))) :: S) h Q := by
  intro l p e st m args below meth c A D G0 G H locs ls F I hS hL hl
  obtain ⟨hm, hx, hb, hr, hml, hown, hts, hlk, hnm⟩ := id F
  obtain ⟨hdg, hnx, htg, hck⟩ := hm.1 _ _ _ _ _ _ hp
  subst hnx
  obtain ⟨hKn, hA, hP, hD, hSS, hSh, hE⟩ := id I
  have hq : (g, i) ∈ G.1 := ok_hd (ok_tl hS) _ rfl
  obtain ⟨j, hj1, hj2⟩ := gw_at (h := h) hq
  obtain ⟨t0, ht0⟩ := hSh.2.2.2 _ hq (by rw [hk]; exact Nat.le_refl _)
  rw [hk] at ht0
  rw [cel_int hk] at hj2
  exact va_iald hx hb hKn.1 hP j t0 hj2 ht0 hin hdg (k l p e st m args below meth c A D G0 G H locs ls F I (ok_cs okv_i (ok_tl (ok_tl hS))) hL hl)
theorem s_baload {g i n : Nat} {x : Int32} (hp : mt.2.2 pc = some (.baload, 1, nx, tg, k0)) (hk : kd g = (15, n)) (hin : vp_in x n) (k : R d kc ks u v mt nx L (.inl (h.2.1 g i x.toNatClampNeg) :: S) h Q) : R d kc ks u v mt pc L (.inl x :: .inr (.inr (some (g, i))) :: S) h Q := by
  intro l p e st m args below meth c A D G0 G H locs ls F I hS hL hl
  obtain ⟨hm, hx, hb, hr, hml, hown, hts, hlk, hnm⟩ := id F
  obtain ⟨hdg, hnx, htg, hck⟩ := hm.1 _ _ _ _ _ _ hp
  subst hnx
  obtain ⟨hKn, hA, hP, hD, hSS, hSh, hE⟩ := id I
  have hq : (g, i) ∈ G.1 := ok_hd (ok_tl hS) _ rfl
  obtain ⟨j, hj1, hj2⟩ := gw_at (h := h) hq
  obtain ⟨t0, ht0⟩ := hSh.2.2.2 _ hq (by rw [hk]; exact Nat.le_of_ble_eq_true rfl)
  rw [hk] at ht0
  rw [cel_bool hk] at hj2
  exact va_zald hx hb hKn.1 hP j t0 hj2 ht0 hin hdg (k l p e st m args below meth c A D G0 G H locs ls F I (ok_cs okv_i (ok_tl (ok_tl hS))) hL hl)
theorem s_laload {g i n : Nat} {x : Int32} (hp : mt.2.2 pc = some (.laload, 1, nx, tg, k0)) (hk : kd g = (14, n)) (hin : vp_in x n) (k : R d kc ks u v mt nx L (.inr (.inl (h.2.2.1 g i x.toNatClampNeg)) :: S) h Q) : R d kc ks u v mt pc L (.inl x :: .inr (.inr (some (g, i))) :: S) h Q := by
  intro l p e st m args below meth c A D G0 G H locs ls F I hS hL hl
  obtain ⟨hm, hx, hb, hr, hml, hown, hts, hlk, hnm⟩ := id F
  obtain ⟨hdg, hnx, htg, hck⟩ := hm.1 _ _ _ _ _ _ hp
  subst hnx
  obtain ⟨hKn, hA, hP, hD, hSS, hSh, hE⟩ := id I
  have hq : (g, i) ∈ G.1 := ok_hd (ok_tl hS) _ rfl
  obtain ⟨j, hj1, hj2⟩ := gw_at (h := h) hq
  obtain ⟨t0, ht0⟩ := hSh.2.2.2 _ hq (by rw [hk]; exact Nat.le_of_ble_eq_true rfl)
  rw [hk] at ht0
  rw [cel_long hk] at hj2
  exact va_lald hx hb hKn.1 hP j t0 hj2 ht0 hin hdg (k l p e st m args below meth c A D G0 G H locs ls F I (ok_cs okv_l (ok_tl (ok_tl hS))) hL hl)
theorem s_aaload {g i n kk : Nat} {x : Int32} (hp : mt.2.2 pc = some (.aaload, 1, nx, tg, k0)) (hk : kd g = (kk, n)) (h16 : 16 ≤ kk) (hin : vp_in x n) (k : R d kc ks u v mt nx L (.inr (.inr (h.2.2.2 g i x.toNatClampNeg)) :: S) h Q) : R d kc ks u v mt pc L (.inl x :: .inr (.inr (some (g, i))) :: S) h Q := by
  intro l p e st m args below meth c A D G0 G H locs ls F I hS hL hl
  obtain ⟨hm, hx, hb, hr, hml, hown, hts, hlk, hnm⟩ := id F
  obtain ⟨hdg, hnx, htg, hck⟩ := hm.1 _ _ _ _ _ _ hp
  subst hnx
  obtain ⟨hKn, hA, hP, hD, hSS, hSh, hE⟩ := id I
  have hq : (g, i) ∈ G.1 := ok_hd (ok_tl hS) _ rfl
  obtain ⟨j, hj1, hj2⟩ := gw_at (h := h) hq
  obtain ⟨t0, ht0⟩ := hSh.2.2.2 _ hq (by rw [hk]; exact Nat.le_trans (Nat.le_of_ble_eq_true rfl) h16)
  rw [hk] at ht0
  obtain ⟨C, hC⟩ : ∃ C, aty kk = .object C := by
    match kk, h16 with
    | 16, _ => exact ⟨_, rfl⟩
    | n + 17, _ => exact ⟨_, rfl⟩
  rw [show aty (kk, n).1 = .object C from hC] at ht0
  rw [cel_ref hk h16] at hj2
  have hok : okv G (.inr (.inr (h.2.2.2 g i x.toNatClampNeg))) := by
    intro q hq'
    have h4 : h.2.2.2 g i x.toNatClampNeg = some q := Sum.inr.inj (Sum.inr.inj hq')
    refine hSh.2.2.1 (g, i) hq _ ?_ q h4
    rw [hk]
    have := vp_in_iff.mp hin
    show x.toNatClampNeg < n
    exact Nat.lt_of_not_le (fun z => hin (Or.inr z))
  exact va_aldq hx hb hKn.1 hP j t0 hj2 ht0 hin hdg (k l p e st m args below meth c A D G0 G H locs ls F I (ok_cs hok (ok_tl (ok_tl hS))) hL hl)
theorem s_arraylength {g i n kk : Nat} (hp : mt.2.2 pc = some (.arraylength, 1, nx, tg, k0)) (hk : kd g = (kk, n)) (h13 : 13 ≤ kk) {z : Int32} (hz : Int32.ofNat n = z) (k : R d kc ks u v mt nx L (.inl z :: S) h Q) : R d kc ks u v mt pc L (.inr (.inr (some (g, i))) :: S) h Q := by
  intro l p e st m args below meth c A D G0 G H locs ls F I hS hL hl
  obtain ⟨hm, hx, hb, hr, hml, hown, hts, hlk, hnm⟩ := id F
  obtain ⟨hdg, hnx, htg, hck⟩ := hm.1 _ _ _ _ _ _ hp
  subst hnx
  obtain ⟨hKn, hA, hP, hD, hSS, hSh, hE⟩ := id I
  have hq : (g, i) ∈ G.1 := ok_hd hS _ rfl
  obtain ⟨j, hj1, hj2⟩ := gw_at (h := h) hq
  obtain ⟨t0, ht0⟩ := hSh.2.2.2 _ hq (by rw [hk]; exact h13)
  obtain ⟨a0, ha0⟩ : ∃ a0, cel G h (g, i) = .inl (G.2.2.1 (g, i), n, a0) := by
    by_cases h14 : kk = 14
    · subst h14; exact ⟨_, cel_long hk⟩
    · by_cases h16 : 16 ≤ kk
      · exact ⟨_, cel_ref hk h16⟩
      · have : kk = 13 ∨ kk = 15 := by omega
        rcases this with rfl | rfl
        · exact ⟨_, cel_int hk⟩
        · exact ⟨_, cel_bool hk⟩
  rw [ha0] at hj2
  exact va_alen hx hb hKn.1 hP j t0 hj2 ht0 hz hdg (k l p e st m args below meth c A D G0 G H locs ls F I (ok_cs okv_i (ok_tl hS)) hL hl)
theorem s_iastore {g i n : Nat} {x y : Int32} (hp : mt.2.2 pc = some (.iastore, 1, nx, tg, k0)) (hk : kd g = (13, n)) (hin : vp_in x n) (k : R d kc ks u v mt nx L S (fput h g i x.toNatClampNeg (.inl y)) Q) : R d kc ks u v mt pc L (.inl y :: .inl x :: .inr (.inr (some (g, i))) :: S) h Q := by
  intro l p e st m args below meth c A D G0 G H locs ls F I hS hL hl
  obtain ⟨hm, hx, hb, hr, hml, hown, hts, hlk, hnm⟩ := id F
  obtain ⟨hdg, hnx, htg, hck⟩ := hm.1 _ _ _ _ _ _ hp
  subst hnx
  obtain ⟨hKn, hA, hP, hD, hSS, hSh, hE⟩ := id I
  have hq : (g, i) ∈ G.1 := ok_hd (ok_tl (ok_tl hS)) _ rfl
  obtain ⟨j, hj1, hj2⟩ := gw_at (h := h) hq
  obtain ⟨t0, ht0⟩ := hSh.2.2.2 _ hq (by rw [hk]; exact Nat.le_refl _)
  rw [hk] at ht0
  have hset := gw_set (h := h) (h' := fput h g i x.toNatClampNeg (.inl y)) hSh.1 hj1 fput_cel
  rw [cel_int hk] at hj2 hset
  refine va_iast hx hb hKn.1 hP hD hSS j t0 hj2 ht0 hin hdg (fun H1 locs1 hP1 hD1 hS1 => ?_)
  have he : (fput h g i x.toNatClampNeg (.inl y)).2.1 g i = upd (h.2.1 g i) x.toNatClampNeg y := by
    show up3 h.2.1 g i _ y g i = _
    rw [up3_at]; rfl
  rw [he] at hset
  rw [hset] at hP1 hD1
  exact k l p e st m args below meth c A D G0 G H1 locs1 ls F ⟨hKn, hA, hP1, hD1, hS1, fput_shp hSh okv_i, hE⟩ (ok_tl (ok_tl (ok_tl hS))) hL hl
theorem s_bastore {g i n : Nat} {x y : Int32} (hp : mt.2.2 pc = some (.bastore, 1, nx, tg, k0)) (hk : kd g = (15, n)) (hin : vp_in x n) (hy : y = 0 ∨ y = 1) (k : R d kc ks u v mt nx L S (fput h g i x.toNatClampNeg (.inl y)) Q) : R d kc ks u v mt pc L (.inl y :: .inl x :: .inr (.inr (some (g, i))) :: S) h Q := by
  intro l p e st m args below meth c A D G0 G H locs ls F I hS hL hl
  obtain ⟨hm, hx, hb, hr, hml, hown, hts, hlk, hnm⟩ := id F
  obtain ⟨hdg, hnx, htg, hck⟩ := hm.1 _ _ _ _ _ _ hp
  subst hnx
  obtain ⟨hKn, hA, hP, hD, hSS, hSh, hE⟩ := id I
  have hq : (g, i) ∈ G.1 := ok_hd (ok_tl (ok_tl hS)) _ rfl
  obtain ⟨j, hj1, hj2⟩ := gw_at (h := h) hq
  obtain ⟨t0, ht0⟩ := hSh.2.2.2 _ hq (by rw [hk]; exact Nat.le_of_ble_eq_true rfl)
  rw [hk] at ht0
  have hset := gw_set (h := h) (h' := fput h g i x.toNatClampNeg (.inl y)) hSh.1 hj1 fput_cel
  rw [cel_bool hk] at hj2 hset
  refine va_zast hx hb hKn.1 hP hD hSS j t0 hj2 ht0 hin hdg (fun H1 locs1 hP1 hD1 hS1 => ?_)
  have hv : vp_nar .boolean y = y := by rcases hy with rfl | rfl <;> decide
  have he : (fput h g i x.toNatClampNeg (.inl y)).2.1 g i = upd (h.2.1 g i) x.toNatClampNeg (vp_nar .boolean y) := by
    show up3 h.2.1 g i _ y g i = _
    rw [up3_at, hv]; rfl
  rw [he] at hset
  rw [hset] at hP1 hD1
  exact k l p e st m args below meth c A D G0 G H1 locs1 ls F ⟨hKn, hA, hP1, hD1, hS1, fput_shp hSh okv_i, hE⟩ (ok_tl (ok_tl (ok_tl hS))) hL hl
theorem s_lastore {g i n : Nat} {x : Int32} {y : Int64} (hp : mt.2.2 pc = some (.lastore, 1, nx, tg, k0)) (hk : kd g = (14, n)) (hin : vp_in x n) (k : R d kc ks u v mt nx L S (fput h g i x.toNatClampNeg (.inr (.inl y))) Q) : R d kc ks u v mt pc L (.inr (.inl y) :: .inl x :: .inr (.inr (some (g, i))) :: S) h Q := by
  intro l p e st m args below meth c A D G0 G H locs ls F I hS hL hl
  obtain ⟨hm, hx, hb, hr, hml, hown, hts, hlk, hnm⟩ := id F
  obtain ⟨hdg, hnx, htg, hck⟩ := hm.1 _ _ _ _ _ _ hp
  subst hnx
  obtain ⟨hKn, hA, hP, hD, hSS, hSh, hE⟩ := id I
  have hq : (g, i) ∈ G.1 := ok_hd (ok_tl (ok_tl hS)) _ rfl
  obtain ⟨j, hj1, hj2⟩ := gw_at (h := h) hq
  obtain ⟨t0, ht0⟩ := hSh.2.2.2 _ hq (by rw [hk]; exact Nat.le_of_ble_eq_true rfl)
  rw [hk] at ht0
  have hset := gw_set (h := h) (h' := fput h g i x.toNatClampNeg (.inr (.inl y))) hSh.1 hj1 fput_cel
  rw [cel_long hk] at hj2 hset
  refine va_last hx hb hKn.1 hP hD hSS j t0 hj2 ht0 hin hdg (fun H1 locs1 hP1 hD1 hS1 => ?_)
  have he : (fput h g i x.toNatClampNeg (.inr (.inl y))).2.2.1 g i = vp_updL (h.2.2.1 g i) x.toNatClampNeg y := by
    show up3 h.2.2.1 g i _ y g i = _
    rw [up3_at]; rfl
  rw [he] at hset
  rw [hset] at hP1 hD1
  exact k l p e st m args below meth c A D G0 G H1 locs1 ls F ⟨hKn, hA, hP1, hD1, hS1, fput_shp hSh okv_l, hE⟩ (ok_tl (ok_tl (ok_tl hS))) hL hl
/-! returns -/
theorem qp_mk {A : Nat → Prop} {D : va_G} {G0 G : Gh} {st t : State} {H : Heap} {locs : List Loc} {args : Array Value} {r : Option AV} (hW : st.WarmedH t.vm) (ht : t.heap = H) (I : Iv A D G0 G h st H locs) (hq : Q r h) (hok : ∀ x, r = some x → okv G x) : Qp Q D G0 A args st (.returned (r.map (cv G.2.1))) t := by
  obtain ⟨hKn, hA, hP, hD, hSS, hSh, hE⟩ := id I
  exact ⟨⟨r, h, G, rfl, hq, hok, ⟨va_K.moved hW.alike hKn.1, fun w hw => NW_warm hW w hw (hKn.2.1 w hw), hKn.2.2.1.moved hW.alike, hKn.2.2.2.moved hW.alike⟩, by rw [ht]; exact hP, hD, hSh, hE⟩, hSS.F ht⟩
theorem ok_some {G : Gh} {a : AV} (h : okv G a) : ∀ x, some a = some x → okv G x := fun x e => by cases e; exact h
theorem ok_none {G : Gh} : ∀ x, (none : Option AV) = some x → okv G x := fun x e => by cases e
theorem s_ireturn {x : Int32} (hp : mt.2.2 pc = some (.ireturn, 1, nx, tg, k0)) (hr : mt.1.2.2.2 = some .int ∨ (mt.1.2.2.2 = some .boolean ∧ (x = 0 ∨ x = 1))) (hu : u ≤ kc) (hv : v ≤ ks) (hq : Q (some (.inl x)) h) : R d kc ks u v mt pc L [.inl x] h Q := by
  intro l p e st m args below meth c A D G0 G H locs ls F I hS hL hl
  obtain ⟨hm, hx, hb, hrt, hml, hown, hts, hlk, hnm⟩ := id F
  obtain ⟨hdg, hnx, htg, hck⟩ := hm.1 _ _ _ _ _ _ hp
  obtain ⟨hKn, hA, hP, hD, hSS, hSh, hE⟩ := id I
  refine W.widen hu hv ?_
  have key : ∀ t : State, t.heap = H → st.WarmedH t.vm → Qp Q D G0 A args st (.returned (some (.int x))) t := fun t ht hW => qp_mk (r := some (.inl x)) hW ht I hq (ok_some okv_i)
  rcases hr with hr | ⟨hr, hx01⟩
  · exact W.iret hx hb (by rw [hrt, hr]) key hSS.2.2 hdg hlk
  · exact W.zret hx hb (by rw [hrt, hr]) (by rcases hx01 with rfl | rfl <;> decide) key hSS.2.2 hdg hlk
theorem s_lreturn {x : Int64} (hp : mt.2.2 pc = some (.lreturn, 1, nx, tg, k0)) (hr : mt.1.2.2.2 = some .long) (hu : u ≤ kc) (hv : v ≤ ks) (hq : Q (some (.inr (.inl x))) h) : R d kc ks u v mt pc L [.inr (.inl x)] h Q := by
  intro l p e st m args below meth c A D G0 G H locs ls F I hS hL hl
  obtain ⟨hm, hx, hb, hrt, hml, hown, hts, hlk, hnm⟩ := id F
  obtain ⟨hdg, hnx, htg, hck⟩ := hm.1 _ _ _ _ _ _ hp
  obtain ⟨hKn, hA, hP, hD, hSS, hSh, hE⟩ := id I
  refine W.widen hu hv ?_
  exact W.lret hx hb (by rw [hrt, hr]) (fun t ht hW => qp_mk (r := some (.inr (.inl x))) hW ht I hq (ok_some okv_l)) hSS.2.2 hdg hlk
theorem s_return (hp : mt.2.2 pc = some (.return_, 1, nx, tg, k0)) (hr : mt.1.2.2.2 = none) (hu : u ≤ kc) (hv : v ≤ ks) (hq : Q none h) : R d kc ks u v mt pc L [] h Q := by
  intro l p e st m args below meth c A D G0 G H locs ls F I hS hL hl
  obtain ⟨hm, hx, hb, hrt, hml, hown, hts, hlk, hnm⟩ := id F
  obtain ⟨hdg, hnx, htg, hck⟩ := hm.1 _ _ _ _ _ _ hp
  obtain ⟨hKn, hA, hP, hD, hSS, hSh, hE⟩ := id I
  refine W.widen hu hv ?_
  exact W.vret hx hb (by rw [hrt, hr]) (fun t ht hW => qp_mk (r := none) hW ht I hq ok_none) hSS.2.2 hdg hlk
theorem s_areturn {r : Option (Nat × Nat)} {C : String} (hp : mt.2.2 pc = some (.areturn, 1, nx, tg, k0)) (hr : mt.1.2.2.2 = some (.object C)) (hu : u ≤ kc) (hv : v ≤ ks) (hq : Q (some (.inr (.inr r))) h) : R d kc ks u v mt pc L [.inr (.inr r)] h Q := by
  intro l p e st m args below meth c A D G0 G H locs ls F I hS hL hl
  obtain ⟨hm, hx, hb, hrt, hml, hown, hts, hlk, hnm⟩ := id F
  obtain ⟨hdg, hnx, htg, hck⟩ := hm.1 _ _ _ _ _ _ hp
  obtain ⟨hKn, hA, hP, hD, hSS, hSh, hE⟩ := id I
  refine W.widen hu hv ?_
  have hnr : va_rf (r.map G.2.1) = .null ∨ ∃ a, va_rf (r.map G.2.1) = .ref a := by
    cases r with
    | none => exact Or.inl rfl
    | some q => exact Or.inr ⟨_, rfl⟩
  exact W.aret hx hb (by rw [hrt, hr]) (Or.inl ⟨C, rfl⟩) hnr (fun t ht hW => qp_mk (r := some (.inr (.inr r))) hW ht I hq (ok_some (ok_hd hS))) hSS.2.2 hdg hlk
end RA
end
section
theorem cv_ext {G G' : Gh} (hE : Ext G G') {x : AV} (hx : okv G x) : cv G'.2.1 x = cv G.2.1 x := by
  rcases x with y | y | r
  · rfl
  · rfl
  · cases r with
    | none => rfl
    | some q => simp [cv, (hE q (hx q rfl)).2]
theorem okv_ext {G G' : Gh} (hE : Ext G G') {x : AV} (hx : okv G x) : okv G' x := fun q e => (hE q (hx q e)).1
theorem map_ext {G G' : Gh} (hE : Ext G G') {S : List AV} (hS : ∀ x ∈ S, okv G x) : S.map (cv G'.2.1) = S.map (cv G.2.1) := List.map_congr_left (fun x hx => cv_ext hE (hS x hx))
theorem lpos_ext {G G' : Gh} (hE : Ext G G') : ∀ {L : List (Option AV)} {b : Nat}, (∀ x, some x ∈ L → okv G x) → lpos G'.2.1 b L = lpos G.2.1 b L := by
  intro L
  induction L with
  | nil => intro b _; rfl
  | cons o t ih =>
    intro b hL
    have h1 := ih (b := b + 1) (fun x hx => hL x (List.mem_cons_of_mem _ hx))
    cases o with
    | none => exact h1
    | some w =>
      simp only [lpos]
      rw [h1, cv_ext hE (hL w List.mem_cons_self)]
theorem ext_rf {G : Gh} : Ext G G := fun _ h => ⟨h, rfl⟩
theorem ext_tr {G G1 G2 : Gh} (a : Ext G G1) (b : Ext G1 G2) : Ext G G2 := fun q h => ⟨(b q (a q h).1).1, ((b q (a q h).1).2).trans (a q h).2⟩
/-- what every callee shows: its class is there, its parameters are n -/
def CB (mt2 : MI) (n : Nat) : Prop := MOK mt2 ∧ Cond.initialized mt2.1.1.cls ∈ TW ∧ (mt2.1.1.cls ≠ "java/lang/invoke/MethodHandle" ∧ mt2.1.1.cls ≠ "java/lang/invoke/VarHandle" ∧ (parseMethodDescriptor mt2.1.1.desc).map (fun d => d.parameters.length) = some n) ∧ mt2.1.2.2.1 ≤ 45
def CV (mt2 : MI) (n : Nat) : Prop := CB mt2 n ∧ Cond.instanceMethod mt2.1.1 ∈ TW ∧ Cond.selects mt2.1.1.cls mt2.1.1 mt2.1.1 ∈ TW
def CS (mt2 : MI) (n : Nat) : Prop := CB mt2 n ∧ Cond.static mt2.1.1 ∈ TW
def CI (mt2 : MI) (n : Nat) : Prop := CB mt2 n ∧ Cond.instanceMethod mt2.1.1 ∈ TW ∧ mt2.1.1.name = "<init>" ∧ mt2.1.2.2.2 = none
/-- the class k's pool entry idx names the method y -/
def LK (k idx : Nat) (y : MethodName) : Prop := Cond.methodLink (cnm k) idx y ∈ TW ∨ ∃ host, Cond.methodLinkNest (cnm k) idx y host ∈ NW
def acat (x : AV) : Nat := bif isL (some x) then 2 else 1
theorem acat_cv {ad : Nat × Nat → Nat} {x : AV} : (cv ad x).category = acat x := by
  rcases x with y | y | r
  · rfl
  · rfl
  · cases r <;> rfl
theorem acat_sum {ad : Nat × Nat → Nat} {S : List AV} : ((S.map (cv ad)).map fun z => z.category).sum = (S.map acat).sum := by
  rw [List.map_map]
  congr 1
  exact List.map_congr_left (fun x _ => acat_cv)
section RC
variable {d kc ks u v d2 kc2 ks2 : Nat} {mt mt2 : MI} {pc nx tg : Nat} {k0 : Int32} {L : List (Option AV)} {S S0 As : List AV} {h : AH} {Q Q1 : Option AV → AH → Prop}
abbrev PcM (D : va_G) (G : Gh) (sz : Nat) (As : List AV) (h : AH) : Array Value → State → Prop := fun w U => w = (As.map (cv G.2.1)).toArray ∧ U.heap.size = sz ∧ Kn D G U ∧ va_P D cls (gw G h) U.heap ∧ va_D (fun _ => True) (gw G h) ∧ Shp G h
theorem pc_blind {D : va_G} {G : Gh} {sz : Nat} : FrameBlind (PcM D G sz As h) := by
  intro a U g mk q
  obtain ⟨q0, q1, ⟨k1, k2, k3, k4⟩, qP, qD, qS⟩ := q
  exact ⟨q0, q1, ⟨va_K.moved (u := U) (U := U.calling g mk a) (Vm.Alike.refl U.vm) k1, fun w hw => NW_same (s := U) (U := U.calling g mk a) rfl w hw (k2 w hw), va_AO.moved (u := U) (U := U.calling g mk a) (Vm.Alike.refl U.vm) k3, va_AO.moved (u := U) (U := U.calling g mk a) (Vm.Alike.refl U.vm) k4⟩, qP, qD, qS⟩
theorem kn_warm {D : va_G} {G : Gh} {s U : State} (hW : s.WarmedH U.vm) (h : Kn D G s) : Kn D G U := ⟨va_K.moved hW.alike h.1, fun w hw => NW_warm hW w hw (h.2.1 w hw), h.2.2.1.moved hW.alike, h.2.2.2.moved hW.alike⟩
/-- behind a call -/
theorem call_go {l : Launch} {p : Program} {e : Env} {s : State} {m : MethodId} {args : Array Value} {below : List Frame} {meth : Method} {c : Code} {A : Nat → Prop} {D : va_G} {G0 G : Gh} {H : Heap} {locs : List Loc} {ls : Array Slot} {st0 : List Value} {a : Array Value}
    (F : Fx mt p s m args meth c) (I : Iv A D G0 G h s H locs) (hS : ∀ x ∈ S, okv G x) (hL : ∀ x, some x ∈ L → okv G x) (hl : lv_has ls mt.1.2.2.1 (lpos G.2.1 0 L))
    (hr : va_Run p l e (rmv d kc ks) s m args below meth c H locs u v kc2 ks2 (F0 m pc ls st0) (S.map (cv G.2.1)) (Qp Q1 D G (va_A (gw G h) H.size) a) (va_A (gw G h) H.size))
    (k : ∀ r h', Q1 r h' → R d kc ks (u + kc2) (v + ks2) mt (pc + 3) L (r.toList ++ S) h' Q) : W p l e (rmv d kc ks) s m args below meth c H locs u v (MQ below (Qp Q D G0 A) args s kc ks A) (F0 m pc ls st0) := by
  intro T hT X
  obtain ⟨w, st₀, t, T', L', h0, X', hL', e1, e2, ⟨⟨r, h', G', hv, hq, hok, hK', hP', hD', hSh', hE'⟩, hz, hk⟩, st⟩ := hr T hT X
  cases hv
  rw [h0] at hz hk
  obtain ⟨hKn, hA, hP, hD, hSS, hSh, hE⟩ := id I
  have hF : ∀ q, va_A (gw G h) H.size q → A q := by
    intro q hq
    rcases hq with ⟨j, e0, hj⟩ | hq
    · exact hD.2 j _ hj
    · exact hA q (Nat.le_trans hSS.1 hq)
  have hvm : s.vm.Alike t.vm := by rw [← e2]; exact X'.warmed.alike
  have hSS' : va_S A s.heap T'.heap (locs ++ L') := by
    refine ⟨Nat.le_trans hSS.1 (by rw [e1]; exact hz), fun q h1 h2 => ?_, fun q hq => ?_⟩
    · rw [e1, hk q (Nat.lt_of_lt_of_le h1 hSS.1) (fun z => h2 (hF q z))]
      exact hSS.2.1 q h1 h2
    · rcases List.mem_append.mp hq with h | h
      · exact hSS.2.2 q h
      · exact hF _ (hL' q h)
  have hR := k r h' hq l p e s m args below meth c A D G0 G' T'.heap (locs ++ L') ls F
    ⟨⟨va_K.moved hvm.symm hK'.1, hKn.2.1, hKn.2.2.1, hKn.2.2.2⟩, hA, by rw [e1]; exact hP', hD'.weaken (fun j q hj => hF _), hSS', hSh', ext_tr hE hE'⟩
    (fun x hx => by
      rcases List.mem_append.mp hx with h | h
      · exact hok x (by cases r with
          | none => cases h
          | some y => simp at h; rw [h])
      · exact okv_ext hE' (hS x h))
    (fun x hx => okv_ext hE' (hL x hx)) (by rw [lpos_ext hE' hL]; exact hl)
  obtain ⟨t2, a1, b1⟩ := hR T' rfl X'
  refine ⟨t2, st t2 ?_, b1⟩
  have hst : (r.toList ++ S).map (cv G'.2.1) = (r.map (cv G'.2.1)).toList ++ S.map (cv G.2.1) := by
    rw [List.map_append, map_ext hE' hS]
    cases r <;> rfl
  rw [hst] at a1
  exact a1
theorem callb {p : Program} {s : State} {m : MethodId} {args : Array Value} {meth : Method} {c : Code} {idx n : Nat} (F : Fx mt p s m args meth c) (hc : CB mt2 n) (hl : Cond.methodLink (cnm mt.2.1) idx mt2.1.1 ∈ TW) (hd : d2 + 1 ≤ d) : CallB (rmv d kc ks) s args (cnm mt.2.1) idx mt2.1.1 mt2.1.2.1 mt2.1.2.2.1 mt2.1.2.2.2 (.code mt2.1.1 mt2.1.2.1 mt2.1.2.2.1 mt2.1.2.2.2 :: TW) (rmv d2 kc2 ks2) kc2 ks2 n := by
  obtain ⟨hm, hx, hb, hr, hml, hown, hts, hlk, hnm⟩ := id F
  obtain ⟨hm2, hini, hd3, hmx⟩ := hc
  exact callB_of n hts (goodIn_TW (List.forall_mem_cons.mpr ⟨hm2.2.2.1, fun _ h => h⟩)) rfl rfl rfl (hts _ hini) (hts _ hl) hd3 ⟨hd, by show 8 + (mt2.1.2.2.1 + 11) + 64 * d2 ≤ 64 * d; omega⟩
theorem calln {p : Program} {s : State} {m : MethodId} {args : Array Value} {meth : Method} {c : Code} {idx n : Nat} {host : String} {D : va_G} {G : Gh} (F : Fx mt p s m args meth c) (hKn : Kn D G s) (hc : CB mt2 n) (hl : Cond.methodLinkNest (cnm mt.2.1) idx mt2.1.1 host ∈ NW) (hd : d2 + 1 ≤ d) : va_CN (rmv d kc ks) s args (cnm mt.2.1) idx mt2.1.1 host mt2.1.2.1 mt2.1.2.2.1 mt2.1.2.2.2 (.code mt2.1.1 mt2.1.2.1 mt2.1.2.2.1 mt2.1.2.2.2 :: TW) (rmv d2 kc2 ks2) kc2 ks2 n := by
  obtain ⟨hm, hx, hb, hr, hml, hown, hts, hlk, hnm⟩ := id F
  obtain ⟨hm2, hini, hd3, hmx⟩ := hc
  exact va_cnB n hts (goodIn_TW (List.forall_mem_cons.mpr ⟨hm2.2.2.1, fun _ h => h⟩)) rfl rfl rfl (hKn.2.1 _ hl) (hts _ hini) hd3 ⟨hd, by show 8 + (mt2.1.2.2.1 + 11) + 64 * d2 ≤ 64 * d; omega⟩
theorem s_static {idx n : Nat} (hp : mt.2.2 pc = some (.invokestatic idx, 3, nx, tg, k0)) (hl : LK mt.2.1 idx mt2.1.1) (hc : CS mt2 n) (hM : M d2 kc2 ks2 mt2 As h Q1) (hs : S0 = As.reverse ++ S) (hn : As.length = n) (hd : d2 + 1 ≤ d) (hu : u + kc2 ≤ kc ∧ v + ks2 ≤ ks) (hS8 : (S.map acat).sum ≤ 8)
    (k : ∀ r h', Q1 r h' → R d kc ks (u + kc2) (v + ks2) mt nx L (r.toList ++ S) h' Q) : R d kc ks u v mt pc L S0 h Q := by
  intro l p e s m args below meth c A D G0 G H locs ls F I hS hL hlv
  obtain ⟨hm, hx, hb, hr, hml, hown, hts, hlk, hnm⟩ := id F
  obtain ⟨hdg, hnx, htg, hck⟩ := hm.1 _ _ _ _ _ _ hp
  subst hnx; subst hs
  obtain ⟨hKn, hA, hP, hD, hSS, hSh, hE⟩ := id I
  have hSA : ∀ x ∈ As, okv G x := fun x hx => hS x (List.mem_append_left _ (List.mem_reverse.mpr hx))
  have hSr : ∀ x ∈ S, okv G x := fun x hx => hS x (List.mem_append_right _ hx)
  have hstk : (As.reverse ++ S).map (cv G.2.1) = (As.map (cv G.2.1)).reverse ++ S.map (cv G.2.1) := by rw [List.map_append, List.map_reverse]
  rw [hstk]
  have hMl := hM l D G H.size hSA
  have hpre : PreS s H (PcM D G H.size As h) (As.map (cv G.2.1)) := ⟨pc_blind, fun U hU hW => ⟨rfl, by rw [hU], kn_warm hW hKn, by rw [hU]; exact hP, hD.weaken (fun _ _ _ _ => trivial), hSh⟩⟩
  refine call_go (a := (As.map (cv G.2.1)).toArray) F I hSr hL hlv ?_ k
  have hW8 : 2 * (F0 m pc ls ((As.map (cv G.2.1)).reverse ++ S.map (cv G.2.1))).monitorRoom + ((S.map (cv G.2.1)).map fun z => z.category).sum ≤ 8 := lv_room (by rw [acat_sum]; exact hS8)
  rcases hl with hl | ⟨host, hl⟩
  · exact va_runS ⟨hx, hb, hml, hown, hts⟩ hMl ⟨callb F hc.1 hl hd, hts _ hc.2⟩ hpre rfl (by rw [List.length_map]; exact hn) hlv.1 rfl hW8 hdg hu
  · exact va_runSN ⟨hx, hb, hml, hown, hts⟩ hMl ⟨calln F hKn hc.1 hl hd, hts _ hc.2, trivial⟩ hpre rfl (by rw [List.length_map]; exact hn) hlv.1 rfl hW8 hdg hu
theorem s_virtual {idx n g i k2 n2 : Nat} (hp : mt.2.2 pc = some (.invokevirtual idx, 3, nx, tg, k0)) (hl : LK mt.2.1 idx mt2.1.1) (hc : CV mt2 n) (hM : M d2 kc2 ks2 mt2 (.inr (.inr (some (g, i))) :: As) h Q1) (hs : S0 = As.reverse ++ .inr (.inr (some (g, i))) :: S) (hn : As.length = n) (hk : kd g = (k2, n2)) (h13 : k2 < 13) (hcn : mt2.2.1 = k2) (hd : d2 + 1 ≤ d) (hu : u + kc2 ≤ kc ∧ v + ks2 ≤ ks) (hS8 : (S.map acat).sum ≤ 8)
    (k : ∀ r h', Q1 r h' → R d kc ks (u + kc2) (v + ks2) mt nx L (r.toList ++ S) h' Q) : R d kc ks u v mt pc L S0 h Q := by
  intro l p e s m args below meth c A D G0 G H locs ls F I hS hL hlv
  obtain ⟨hm, hx, hb, hr, hml, hown, hts, hlk, hnm⟩ := id F
  obtain ⟨hdg, hnx, htg, hck⟩ := hm.1 _ _ _ _ _ _ hp
  subst hnx; subst hs; subst hcn
  obtain ⟨hKn, hA, hP, hD, hSS, hSh, hE⟩ := id I
  have hq : okv G (.inr (.inr (some (g, i)))) := hS _ (List.mem_append_right _ List.mem_cons_self)
  have hSA : ∀ x ∈ (.inr (.inr (some (g, i))) :: As : List AV), okv G x := ok_cs hq (fun x hx => hS x (List.mem_append_left _ (List.mem_reverse.mpr hx)))
  have hSr : ∀ x ∈ S, okv G x := fun x hx => hS x (List.mem_append_right _ (List.mem_cons_of_mem _ hx))
  have hstk : (As.reverse ++ .inr (.inr (some (g, i))) :: S).map (cv G.2.1) = (As.map (cv G.2.1)).reverse ++ .ref (G.2.1 (g, i)) :: S.map (cv G.2.1) := by rw [List.map_append, List.map_reverse]; rfl
  rw [hstk]
  have hMl := hM l D G H.size hSA
  obtain ⟨j, hj1, hj2⟩ := gw_at (h := h) (hq _ rfl)
  rw [cel_obj hk h13] at hj2
  obtain ⟨T2, N2, hcl⟩ : ∃ T N, cls[mt2.2.1]? = some (mt2.1.1.cls, T, N) := by
    rw [hc.1.1.2.1]
    generalize mt2.2.1 = z at h13
    match z, h13 with
    | 0, _ => exact ⟨_, _, rfl⟩
    | 1, _ => exact ⟨_, _, rfl⟩
    | 2, _ => exact ⟨_, _, rfl⟩
    | 3, _ => exact ⟨_, _, rfl⟩
    | 4, _ => exact ⟨_, _, rfl⟩
    | 5, _ => exact ⟨_, _, rfl⟩
    | 6, _ => exact ⟨_, _, rfl⟩
    | 7, _ => exact ⟨_, _, rfl⟩
    | 8, _ => exact ⟨_, _, rfl⟩
    | 9, _ => exact ⟨_, _, rfl⟩
    | 10, _ => exact ⟨_, _, rfl⟩
    | 11, _ => exact ⟨_, _, rfl⟩
    | 12, _ => exact ⟨_, _, rfl⟩
    | n + 13, hh => exact absurd hh (by omega)
  have hpre : PreV s H mt2.1.1.cls (G.2.1 (g, i)) (PcM D G H.size (.inr (.inr (some (g, i))) :: As) h) (As.map (cv G.2.1)) := ⟨pc_blind, va_recv hKn.1 hP hcl hj2, fun U hU hW => ⟨rfl, by rw [hU], kn_warm hW hKn, by rw [hU]; exact hP, hD.weaken (fun _ _ _ _ => trivial), hSh⟩⟩
  refine call_go (a := (Value.ref (G.2.1 (g, i)) :: As.map (cv G.2.1)).toArray) F I hSr hL hlv ?_ k
  have hW8 : 2 * (F0 m pc ls ((As.map (cv G.2.1)).reverse ++ .ref (G.2.1 (g, i)) :: S.map (cv G.2.1))).monitorRoom + ((S.map (cv G.2.1)).map fun z => z.category).sum ≤ 8 := lv_room (by rw [acat_sum]; exact hS8)
  rcases hl with hl | ⟨host, hl⟩
  · exact va_runV ⟨hx, hb, hml, hown, hts⟩ hMl ⟨callb F hc.1 hl hd, hts _ hc.2.1, hts _ hc.2.2⟩ hpre rfl (by rw [List.length_map]; exact hn) hlv.1 rfl hW8 hdg hu
  · exact va_runVN ⟨hx, hb, hml, hown, hts⟩ hMl ⟨calln F hKn hc.1 hl hd, hts _ hc.2.1, hts _ hc.2.2⟩ hpre rfl (by rw [List.length_map]; exact hn) hlv.1 rfl hW8 hdg hu
theorem s_init {idx n g i : Nat} (hp : mt.2.2 pc = some (.invokespecial idx, 3, nx, tg, k0)) (hl : LK mt.2.1 idx mt2.1.1) (hc : CI mt2 n) (hM : M d2 kc2 ks2 mt2 (.inr (.inr (some (g, i))) :: As) h Q1) (hs : S0 = As.reverse ++ .inr (.inr (some (g, i))) :: S) (hn : As.length = n) (hd : d2 + 1 ≤ d) (hu : u + kc2 ≤ kc ∧ v + ks2 ≤ ks) (hS8 : (S.map acat).sum ≤ 8)
    (k : ∀ r h', Q1 r h' → R d kc ks (u + kc2) (v + ks2) mt nx L (r.toList ++ S) h' Q) : R d kc ks u v mt pc L S0 h Q := by
  intro l p e s m args below meth c A D G0 G H locs ls F I hS hL hlv
  obtain ⟨hm, hx, hb, hr, hml, hown, hts, hlk, hnm⟩ := id F
  obtain ⟨hdg, hnx, htg, hck⟩ := hm.1 _ _ _ _ _ _ hp
  subst hnx; subst hs
  obtain ⟨hKn, hA, hP, hD, hSS, hSh, hE⟩ := id I
  have hq : okv G (.inr (.inr (some (g, i)))) := hS _ (List.mem_append_right _ List.mem_cons_self)
  have hSA : ∀ x ∈ (.inr (.inr (some (g, i))) :: As : List AV), okv G x := ok_cs hq (fun x hx => hS x (List.mem_append_left _ (List.mem_reverse.mpr hx)))
  have hSr : ∀ x ∈ S, okv G x := fun x hx => hS x (List.mem_append_right _ (List.mem_cons_of_mem _ hx))
  have hstk : (As.reverse ++ .inr (.inr (some (g, i))) :: S).map (cv G.2.1) = (As.map (cv G.2.1)).reverse ++ .ref (G.2.1 (g, i)) :: S.map (cv G.2.1) := by rw [List.map_append, List.map_reverse]; rfl
  rw [hstk]
  have hMl := hM l D G H.size hSA
  have hpre : PreS s H (PcM D G H.size (.inr (.inr (some (g, i))) :: As) h) (.ref (G.2.1 (g, i)) :: As.map (cv G.2.1)) := ⟨pc_blind, fun U hU hW => ⟨rfl, by rw [hU], kn_warm hW hKn, by rw [hU]; exact hP, hD.weaken (fun _ _ _ _ => trivial), hSh⟩⟩
  refine call_go (a := (Value.ref (G.2.1 (g, i)) :: As.map (cv G.2.1)).toArray) F I hSr hL hlv ?_ k
  have hW8 : 2 * (F0 m pc ls ((As.map (cv G.2.1)).reverse ++ .ref (G.2.1 (g, i)) :: S.map (cv G.2.1))).monitorRoom + ((S.map (cv G.2.1)).map fun z => z.category).sum ≤ 8 := lv_room (by rw [acat_sum]; exact hS8)
  obtain ⟨hc1, hc2, hc3, hc4⟩ := hc
  rcases hl with hl | ⟨host, hl⟩
  · have hcb := callb (kc := kc) (ks := ks) (kc2 := kc2) (ks2 := ks2) F hc1 hl hd
    rw [hc4] at hcb hMl
    exact va_runI ⟨hx, hb, hml, hown, hts⟩ hMl ⟨hcb, hc3, hts _ hc2⟩ hpre rfl (by rw [List.length_map]; exact hn) hlv.1 rfl hW8 hdg hu
  · have hcb := calln (kc := kc) (ks := ks) (kc2 := kc2) (ks2 := ks2) F hKn hc1 hl hd
    rw [hc4] at hcb hMl
    exact va_runIN ⟨hx, hb, hml, hown, hts⟩ hMl ⟨hcb, hc3, hts _ hc2⟩ hpre rfl (by rw [List.length_map]; exact hn) hlv.1 rfl hW8 hdg hu
end RC
end
section
/-- a method's locals at its entry -/
def eL : List AV → List (Option AV)
  | [] => []
  | x :: t => bif isL (some x) then some x :: none :: eL t else some x :: eL t
def pad : Nat → List (Option AV)
  | 0 => []
  | n + 1 => none :: pad n
theorem pad_no : ∀ {n b : Nat} {ad : Nat × Nat → Nat}, lpos ad b (pad n) = [] := by
  intro n
  induction n with
  | zero => intro b ad; rfl
  | succ n ih => intro b ad; exact ih
theorem lpos_app {ad : Nat × Nat → Nat} : ∀ {L L' : List (Option AV)} {b : Nat}, lpos ad b (L ++ L') = lpos ad b L ++ lpos ad (b + L.length) L' := by
  intro L
  induction L with
  | nil => intro L' b; rfl
  | cons o t ih =>
    intro L' b
    cases o with
    | none =>
      show lpos ad (b + 1) (t ++ L') = lpos ad (b + 1) t ++ _
      rw [ih, show b + 1 + t.length = b + (none :: t : List (Option AV)).length by simp; omega]
    | some w =>
      show (b, cv ad w) :: lpos ad (b + 1) (t ++ L') = (b, cv ad w) :: lpos ad (b + 1) t ++ _
      rw [ih, show b + 1 + t.length = b + (some w :: t : List (Option AV)).length by simp; omega]
      rfl
theorem lpos_eL {ad : Nat × Nat → Nat} : ∀ {As : List AV} {b : Nat}, lpos ad b (eL As) = lv_args b (As.map (cv ad)) := by
  intro As
  induction As with
  | nil => intro b; rfl
  | cons x t ih =>
    intro b
    show lpos ad b (eL (x :: t)) = (b, cv ad x) :: lv_args (if (cv ad x).category = 2 then b + 2 else b + 1) (t.map (cv ad))
    rcases x with y | y | r
    · show (b, _) :: lpos ad (b + 1) (eL t) = _
      rw [ih]; rfl
    · show (b, _) :: lpos ad (b + 1 + 1) (eL t) = _
      rw [ih]; rfl
    · show (b, _) :: lpos ad (b + 1) (eL t) = _
      rw [ih]
      cases r <;> rfl
theorem okl_eL {G : Gh} : ∀ {As : List AV}, (∀ x ∈ As, okv G x) → ∀ x, some x ∈ eL As → okv G x := by
  intro As
  induction As with
  | nil => intro _ x h; cases h
  | cons y t ih =>
    intro hA x hx
    have h1 := ih (fun z hz => hA z (List.mem_cons_of_mem _ hz)) x
    unfold eL at hx
    cases hy : isL (some y) with
    | true =>
      rw [hy] at hx
      simp only [cond_true, List.mem_cons] at hx
      rcases hx with h | h | h
      · cases h; exact hA y List.mem_cons_self
      · cases h
      · exact h1 h
    | false =>
      rw [hy] at hx
      simp only [cond_false, List.mem_cons] at hx
      rcases hx with h | h
      · cases h; exact hA y List.mem_cons_self
      · exact h1 h
theorem okl_pad {G : Gh} : ∀ {n : Nat} (x : AV), some x ∈ pad n → okv G x := by
  intro n
  induction n with
  | zero => intro x h; cases h
  | succ n ih =>
    intro x h
    rcases List.mem_cons.mp h with h | h
    · cases h
    · exact ih x h
def wsum : List AV → Nat
  | [] => 0
  | x :: t => acat x + wsum t
theorem wsum_sl {ad : Nat × Nat → Nat} : ∀ {As : List AV}, (lg_sl (As.map (cv ad))).length = wsum As := by
  intro As
  induction As with
  | nil => rfl
  | cons x t ih =>
    have h1 : lg_sl ((x :: t).map (cv ad)) = (if (cv ad x).category = 2 then [.val (cv ad x), .second] else [.val (cv ad x)]) ++ lg_sl (t.map (cv ad)) := by
      simp [lg_sl]
    rw [h1, List.length_append, ih]
    show _ = acat x + wsum t
    rw [acat_cv]
    rcases x with y | y | r <;> rfl
section RM
variable {d kc ks u v : Nat} {mt : MI} {pc nx tg : Nat} {k0 : Int32} {L L' : List (Option AV)} {S As : List AV} {h : AH} {Q Q' : Option AV → AH → Prop}
theorem M_of (hm : MOK mt) {n : Nat} (hw : wsum As ≤ mt.1.2.2.1) (k : R d kc ks 0 0 mt 0 (eL As ++ pad n) [] h Q) : M d kc ks mt As h Q := by
  intro l D G sz hA
  refine Met.ofW (cc := mt.1.2.1) (maxL := mt.1.2.2.1) (ret := mt.1.2.2.2) hm.2.2.2 rfl ?_
  intro p e s m args below meth c s₁ B hml hv
  obtain ⟨rfl, hsz, hKn, hP, hD0, hSh⟩ := hv
  have hts := atoms_spec (ws := .code mt.1.1 mt.1.2.1 mt.1.2.2.1 mt.1.2.2.2 :: TW) B.pre
  have hown : s.vm.findClass mt.1.1.cls = some m.cls := findClass_of_methodNamed B.named
  have hnm : meth.name = mt.1.1.name := (name_of_methodNamed B.named B.method).1
  subst hsz
  have hD := hD0.self (sz := s.heap.size)
  have hS : va_S (va_A (gw G h) s.heap.size) s.heap s.heap [] := va_S.rf
  have hl := lv_entry (As.map (cv G.2.1)) (n := mt.1.2.2.1) (by rw [wsum_sl]; exact hw)
  rw [lg_entry_eq]
  refine k l p e s m _ below meth c (va_A (gw G h) s.heap.size) D G G s.heap [] _ ⟨hm, B.exec, B.bytes, B.returns, hml, by rw [← hm.2.1]; exact hown, fun w hw => hts w (List.mem_cons_of_mem _ hw), B.notSynchronized, hnm⟩ ⟨hKn, fun q hq => Or.inr hq, hP, hD, hS, hSh, ext_rf⟩ (fun x hx => by cases hx) (fun x hx => ?_) ?_
  · rcases List.mem_append.mp hx with h | h
    · exact okl_eL hA x h
    · exact okl_pad x h
  · rw [lpos_app, pad_no, List.append_nil, lpos_eL]
    exact hl
def lsub : List (Option AV) → List (Option AV) → Prop
  | [], _ => True
  | none :: t, [] => lsub t []
  | none :: t, _ :: t' => lsub t t'
  | some _ :: _, [] => False
  | some x :: t, o :: t' => o = some x ∧ lsub t t'
theorem lsub_at : ∀ {L' L : List (Option AV)} {k : Nat} {x : AV}, lsub L' L → L'[k]? = some (some x) → L[k]? = some (some x) := by
  intro L'
  induction L' with
  | nil => intro L k x _ h; simp at h
  | cons o t ih =>
    intro L k x hs h
    cases o with
    | none =>
      cases k with
      | zero => simp at h
      | succ k =>
        have h1 : t[k]? = some (some x) := by simpa using h
        cases L with
        | nil => have := ih (L := []) hs h1; simp at this
        | cons o' t' => simpa using ih (L := t') hs h1
    | some y =>
      cases L with
      | nil => exact absurd hs id
      | cons o' t' =>
        cases k with
        | zero =>
          have : y = x := by simpa using h
          subst this
          simpa using hs.1
        | succ k =>
          have h1 : t[k]? = some (some x) := by simpa using h
          simpa using ih (L := t') hs.2 h1
theorem R_weak (hs : lsub L' L) (k : R d kc ks u v mt pc L' S h Q) : R d kc ks u v mt pc L S h Q := by
  intro l p e s m args below meth c A D G0 G H locs ls F I hS hL hl
  refine k l p e s m args below meth c A D G0 G H locs ls F I hS (fun x hx => ?_) (lvh_mono hl (fun q hq => ?_))
  · obtain ⟨j, hj⟩ := List.getElem?_of_mem hx
    exact hL x (List.mem_of_getElem? (lsub_at hs hj))
  · obtain ⟨j, w, h1, rfl⟩ := lpos_of hq
    exact lpos_in (lsub_at hs h1)
theorem W_mono {p : Program} {l : Launch} {e : Env} {Rm : Room} {s : State} {m : MethodId} {args : Array Value} {below : List Frame} {meth : Method} {c : Code} {H : Heap} {locs : List Loc} {cells slots : Nat} {Z Z' : State → Prop} {g : JFrame} (hz : ∀ t, Z t → Z' t) (k : W p l e Rm s m args below meth c H locs cells slots Z g) : W p l e Rm s m args below meth c H locs cells slots Z' g := fun T hT X => by
  obtain ⟨t, a, b⟩ := k T hT X
  exact ⟨t, a, hz t b⟩
theorem Qp_mono (hq : ∀ r h', Q r h' → Q' r h') {D : va_G} {G0 : Gh} {A : Nat → Prop} {a : Array Value} {st t : State} {oc : Outcome} (z : Qp Q D G0 A a st oc t) : Qp Q' D G0 A a st oc t := by
  obtain ⟨⟨r, h', G', a1, a2, a3⟩, b⟩ := z
  exact ⟨⟨r, h', G', a1, hq r h' a2, a3⟩, b⟩
theorem R_mono (hq : ∀ r h', Q r h' → Q' r h') (k : R d kc ks u v mt pc L S h Q) : R d kc ks u v mt pc L S h Q' := by
  intro l p e s m args below meth c A D G0 G H locs ls F I hS hL hl
  refine W_mono ?_ (k l p e s m args below meth c A D G0 G H locs ls F I hS hL hl)
  intro t ht
  obtain ⟨o, a, b, c1, d1⟩ := ht
  exact ⟨o, a, b, Qp_mono hq c1, d1⟩
theorem s_objInit {idx g i : Nat} (hp : mt.2.2 pc = some (.invokespecial idx, 3, nx, tg, k0)) (hl : Cond.methodLink (cnm mt.2.1) idx objectInit ∈ TW) (hi : Cond.instanceMethod objectInit ∈ TW) (hc : Cond.code objectInit ⟨#[0xb1]⟩ 1 none ∈ TW) (hd : 1 ≤ d) (hS8 : (S.map acat).sum ≤ 8) (k : R d kc ks u v mt nx L S h Q) : R d kc ks u v mt pc L (.inr (.inr (some (g, i))) :: S) h Q := by
  intro l p e s m args below meth c A D G0 G H locs ls F I hS hL hlv
  obtain ⟨hm, hx, hb, hr, hml, hown, hts, hlk, hnm⟩ := id F
  obtain ⟨hdg, hnx, htg, hck⟩ := hm.1 _ _ _ _ _ _ hp
  subst hnx
  have h8 := lv_room (m := m) (pc := pc) (ls := ls) (rest := (.inr (.inr (some (g, i))) :: S : List AV).map (cv G.2.1)) (st := S.map (cv G.2.1)) (by rw [acat_sum]; exact hS8)
  exact W.objInit hx hb hown (hts _ hl) (hts _ hi) (hts _ hc) rfl (by rw [hml]; exact hlv.1) (a := G.2.1 (g, i)) (rest := S.map (cv G.2.1)) rfl hdg hd (by have : (rmv d kc ks).locals = 64 * d := rfl; rw [this]; omega) (k l p e s m args below meth c A D G0 G H locs ls F I (ok_tl hS) hL hlv)
end RM
end
section
def clr {α : Type} (f : Nat → Nat → Nat → α) (g i : Nat) (x : α) : Nat → Nat → Nat → α := fun g' => if g' = g then (fun i' => if i' = i then (fun _ => x) else f g i') else f g'
/-- one more of the group g -/
def hnew (h : AH) (g : Nat) : AH := (fun z => if z = g then h.1 g + 1 else h.1 z, clr h.2.1 g (h.1 g) 0, clr h.2.2.1 g (h.1 g) 0, clr h.2.2.2 g (h.1 g) none)
def gnew (G : Gh) (q : Nat × Nat) (a : Nat) (cA : ClassId) (tys : List (ClassId × FieldType)) : Gh := (G.1 ++ [q], fun z => if z = q then a else G.2.1 z, fun z => if z = q then cA else G.2.2.1 z, tys)
theorem clr_ne {α : Type} {f : Nat → Nat → Nat → α} {g i : Nat} {x : α} {q : Nat × Nat} (hq : q ≠ (g, i)) : clr f g i x q.1 q.2 = f q.1 q.2 := by
  obtain ⟨a, b⟩ := q
  unfold clr
  by_cases h1 : a = g
  · subst h1
    have h2 : b ≠ i := fun e => hq (by rw [e])
    simp [h2]
  · simp [h1]
theorem clr_at {α : Type} {f : Nat → Nat → Nat → α} {g i : Nat} {x : α} {s : Nat} : clr f g i x g i s = x := by simp [clr]
theorem arrV_congr {cA : ClassId} {n : Nat} {f f' : Nat → Value} (h : ∀ j, j < n → f j = f' j) : arrV cA n f = arrV cA n f' := by
  unfold arrV
  congr 2
  funext j
  exact h j.val j.isLt
theorem q_new {G : Gh} {h : AH} {g : Nat} (hS : Shp G h) : (g, h.1 g) ∉ G.1 := fun hq => absurd ((hS.2.1 (g, h.1 g)).mp hq) (Nat.lt_irrefl _)
theorem gnew_ext {G : Gh} {q : Nat × Nat} {a : Nat} {cA : ClassId} {tys : List (ClassId × FieldType)} (hq : q ∉ G.1) : Ext G (gnew G q a cA tys) := fun z hz => ⟨List.mem_append_left _ hz, by
  have : z ≠ q := fun e => hq (e ▸ hz)
  simp [gnew, this]⟩
theorem ref_map {G : Gh} {h : AH} {q z : Nat × Nat} {a s : Nat} (hS : Shp G h) (hq : q ∉ G.1) (hz : z ∈ G.1) (hs : s < (kd z.1).2) : (h.2.2.2 z.1 z.2 s).map (fun y => if y = q then a else G.2.1 y) = (h.2.2.2 z.1 z.2 s).map G.2.1 := by
  cases hc : h.2.2.2 z.1 z.2 s with
  | none => rfl
  | some y =>
    have : y ≠ q := fun e => hq (e ▸ hS.2.2.1 z hz s hs y hc)
    simp [this]
theorem cel_new {D : va_G} {G : Gh} {h : AH} {g a : Nat} {cA : ClassId} {tys : List (ClassId × FieldType)} {z : Nat × Nat} {b : Nat} {H : Heap} (hS : Shp G h) (hz : z ∈ G.1) (hat : va_at D cls (b, cel G h z) H) : va_at D cls (b, cel (gnew G (g, h.1 g) a cA tys) (hnew h g) z) H := by
  have hq := q_new (g := g) hS
  have hne : z ≠ (g, h.1 g) := fun e => hq (e ▸ hz)
  have e1 : (hnew h g).2.1 z.1 z.2 = h.2.1 z.1 z.2 := clr_ne hne
  have e2 : (hnew h g).2.2.1 z.1 z.2 = h.2.2.1 z.1 z.2 := clr_ne hne
  have e3 : (hnew h g).2.2.2 z.1 z.2 = h.2.2.2 z.1 z.2 := clr_ne hne
  have e4 : (gnew G (g, h.1 g) a cA tys).2.2.1 z = G.2.2.1 z := by simp [gnew, hne]
  unfold cel at hat ⊢
  split
  · rename_i h13
    rw [if_pos h13] at hat
    have : (List.range (kd z.1).2).map (fun s => fvl (gnew G (g, h.1 g) a cA tys).2.1 (hnew h g) (kd z.1).1 z.1 z.2 s) = (List.range (kd z.1).2).map (fun s => fvl G.2.1 h (kd z.1).1 z.1 z.2 s) := by
      refine List.map_congr_left (fun s hs => ?_)
      unfold fvl
      rw [e1, e2, e3]
      have := ref_map (a := a) hS hq hz (List.mem_range.mp hs)
      show (match tcode (fty (kd z.1).1 s) with | 0 => _ | 1 => _ | 2 => _ | _ => va_rf ((h.2.2.2 z.1 z.2 s).map (fun y => if y = (g, h.1 g) then a else G.2.1 y))) = _
      rw [this]
      generalize tcode (fty (kd z.1).1 s) = t
      match t with
      | 0 => rfl
      | 1 => rfl
      | 2 => rfl
      | n + 3 => rfl
    rw [this]
    exact hat
  · rename_i h13
    rw [if_neg h13] at hat
    split
    · rename_i h14
      rw [if_pos h14] at hat
      rw [e2, e4]; exact hat
    · rename_i h14
      rw [if_neg h14] at hat
      split
      · rename_i h16
        rw [if_pos h16] at hat
        rw [e1, e4]; exact hat
      · rename_i h16
        rw [if_neg h16] at hat
        rw [e3, e4]
        have hh : H[b]? = some (arrV (G.2.2.1 z) (kd z.1).2 (fun j => va_rf ((h.2.2.2 z.1 z.2 j).map G.2.1))) := hat
        show H[b]? = some (arrV (G.2.2.1 z) (kd z.1).2 (fun j => va_rf ((h.2.2.2 z.1 z.2 j).map (fun y => if y = (g, h.1 g) then a else G.2.1 y))))
        rw [hh]
        congr 1
        exact arrV_congr (fun j hj => by rw [ref_map (a := a) hS hq hz hj])
theorem alloc_iv {A : Nat → Prop} {D : va_G} {G0 G : Gh} {h : AH} {s : State} {H H1 : Heap} {locs : List Loc} {g a : Nat} {cA : ClassId} {tys : List (ClassId × FieldType)} (I : Iv A D G0 G h s H locs)
    (hK : va_K D cls tys s) (hty : ∀ t : Nat, ∀ x, G.2.2.2[t]? = some x → tys[t]? = some x) (hnt : 13 ≤ (kd g).1 → ∃ t : Nat, tys[t]? = some (cA, aty (kd g).1))
    (hP : va_P D cls (gw G h ++ [(a, cel (gnew G (g, h.1 g) a cA tys) (hnew h g) (g, h.1 g))]) H1) (hD : va_D A (gw G h ++ [(a, cel (gnew G (g, h.1 g) a cA tys) (hnew h g) (g, h.1 g))])) (hSS : va_S A s.heap H1 locs) :
    Iv A D G0 (gnew G (g, h.1 g) a cA tys) (hnew h g) s H1 locs := by
  obtain ⟨hKn, hA, -, -, -, hSh, hE⟩ := I
  have hq := q_new (g := g) hSh
  have hlen : (gw G h).length = G.1.length := by simp [gw]
  have key : ∀ (k : Nat) (x : Nat × va_E), (gw (gnew G (g, h.1 g) a cA tys) (hnew h g))[k]? = some x → ∃ y, (gw G h ++ [(a, cel (gnew G (g, h.1 g) a cA tys) (hnew h g) (g, h.1 g))])[k]? = some y ∧ y.1 = x.1 ∧ (va_at D cls y H1 → va_at D cls x H1) := by
    intro k x hx
    simp only [gw, gnew, List.getElem?_map] at hx
    by_cases hk : k < G.1.length
    · rw [List.getElem?_append_left hk] at hx
      obtain ⟨z, hz⟩ : ∃ z, G.1[k]? = some z := ⟨_, List.getElem?_eq_getElem hk⟩
      rw [hz] at hx
      have hzm := List.mem_of_getElem? hz
      have hne : z ≠ (g, h.1 g) := fun e => hq (e ▸ hzm)
      simp only [Option.map_some, hne, if_false, Option.some.injEq] at hx
      refine ⟨(G.2.1 z, cel G h z), ?_, by rw [← hx], fun hat => ?_⟩
      · rw [List.getElem?_append_left (by rw [hlen]; exact hk)]
        simp [gw, hz]
      · rw [← hx]
        exact cel_new hSh hzm hat
    · by_cases hk2 : k = G.1.length
      · subst hk2
        simp at hx
        refine ⟨(a, cel (gnew G (g, h.1 g) a cA tys) (hnew h g) (g, h.1 g)), ?_, by rw [← hx], fun hat => by rw [← hx]; exact hat⟩
        rw [List.getElem?_append_right (by rw [hlen]; exact Nat.le_refl _), hlen]
        simp
      · rw [List.getElem?_eq_none (by simp; omega)] at hx
        simp at hx
  refine ⟨⟨hK, hKn.2.1, hKn.2.2.1, hKn.2.2.2⟩, hA, ?_, ⟨?_, ?_⟩, hSS, ⟨?_, ?_, ?_, ?_⟩, ext_tr hE (gnew_ext hq)⟩
  · intro k x hx
    obtain ⟨y, h1, h2, h3⟩ := key k x hx
    exact h3 (hP k y h1)
  · intro i j x y hx hy hxy
    obtain ⟨x', a1, a2, -⟩ := key i x hx
    obtain ⟨y', b1, b2, -⟩ := key j y hy
    exact hD.1 i j x' y' a1 b1 (by rw [a2, b2, hxy])
  · intro k x hx
    obtain ⟨y, h1, h2, h3⟩ := key k x hx
    rw [← h2]
    exact hD.2 k y h1
  · show (G.1 ++ [(g, h.1 g)]).Nodup
    rw [List.nodup_append]
    refine ⟨hSh.1, by simp, fun z hz y hy e => ?_⟩
    simp at hy
    rw [hy] at e
    exact hq (e ▸ hz)
  · intro z
    show z ∈ G.1 ++ [(g, h.1 g)] ↔ z.2 < (if z.1 = g then h.1 g + 1 else h.1 z.1)
    rw [List.mem_append, List.mem_singleton, hSh.2.1 z]
    obtain ⟨z1, z2⟩ := z
    by_cases hz : z1 = g
    · subst hz
      simp only [if_true, Prod.mk.injEq, true_and]
      omega
    · simp only [hz, if_false, Prod.mk.injEq, false_and, or_false]
  · intro z hz t ht y hy
    show y ∈ G.1 ++ [(g, h.1 g)]
    by_cases hzq : z = (g, h.1 g)
    · subst hzq
      have : clr h.2.2.2 g (h.1 g) none g (h.1 g) t = some y := hy
      rw [clr_at] at this
      cases this
    · have hz' : z ∈ G.1 := by
        rcases List.mem_append.mp hz with h | h
        · exact h
        · exact absurd (List.mem_singleton.mp h) hzq
      have : clr h.2.2.2 g (h.1 g) none z.1 z.2 t = some y := hy
      rw [clr_ne hzq] at this
      exact List.mem_append_left _ (hSh.2.2.1 z hz' t ht y this)
  · intro z hz h13
    by_cases hzq : z = (g, h.1 g)
    · subst hzq
      obtain ⟨t, ht⟩ := hnt h13
      exact ⟨t, by simp only [gnew, if_true]; exact ht⟩
    · have hz' : z ∈ G.1 := by
        rcases List.mem_append.mp hz with h | h
        · exact h
        · exact absurd (List.mem_singleton.mp h) hzq
      obtain ⟨t, ht⟩ := hSh.2.2.2 z hz' h13
      exact ⟨t, by simp only [gnew, hzq, if_false]; exact hty t _ ht⟩
def dfl (t : Nat) : Value := match t with
  | 0 => .int 0
  | 1 => .int 0
  | 2 => .long 0
  | _ => .null
/-- an object of the class ci is made by the class k at its pool's entry idx -/
def NOK (k idx ci N : Nat) : Prop := ∃ T : u_T, cls[ci]? = some (cnm ci, T, N) ∧ (∀ w ∈ u_ws (cnm ci) T N, w ∈ TW) ∧ (∀ j, j < N → parseFieldDescriptor (T j).2.2.1 = some (fty ci j)) ∧ Cond.classLink (cnm k) idx (cnm ci) ∈ TW ∧ Cond.instantiable (cnm ci) N ∈ TW ∧ Cond.initialized (cnm ci) ∈ TW ∧ (∀ j, j < N → defaultValue (fty ci j) = dfl (tcode (fty ci j)))
section RN
variable {d kc ks u v : Nat} {mt : MI} {pc nx tg : Nat} {k0 : Int32} {L : List (Option AV)} {S : List AV} {h : AH} {Q : Option AV → AH → Prop}
theorem new_go {l : Launch} {p : Program} {e : Env} {s : State} {m : MethodId} {args : Array Value} {below : List Frame} {meth : Method} {c : Code} {A : Nat → Prop} {D : va_G} {G0 G : Gh} {H1 : Heap} {locs : List Loc} {ls : Array Slot} {g a : Nat} {cA : ClassId} {tys : List (ClassId × FieldType)} {u' v' pc' : Nat}
    (F : Fx mt p s m args meth c) (I : Iv A D G0 (gnew G (g, h.1 g) a cA tys) (hnew h g) s H1 locs) (hSh : Shp G h) (hS : ∀ x ∈ S, okv G x) (hL : ∀ x, some x ∈ L → okv G x) (hl : lv_has ls mt.1.2.2.1 (lpos G.2.1 0 L))
    (k : R d kc ks u' v' mt pc' L (.inr (.inr (some (g, h.1 g))) :: S) (hnew h g) Q) : W p l e (rmv d kc ks) s m args below meth c H1 locs u' v' (MQ below (Qp Q D G0 A) args s kc ks A) (F0 m pc' ls (.ref a :: S.map (cv G.2.1))) := by
  have hE := gnew_ext (a := a) (cA := cA) (tys := tys) (q_new (g := g) hSh)
  have h1 := k l p e s m args below meth c A D G0 _ H1 locs ls F I (ok_cs (fun q e => by cases e; exact List.mem_append_right _ (List.mem_singleton.mpr rfl)) (fun x hx => okv_ext hE (hS x hx))) (fun x hx => okv_ext hE (hL x hx)) (by rw [lpos_ext hE hL]; exact hl)
  have h2 : (.inr (.inr (some (g, h.1 g))) :: S : List AV).map (cv (gnew G (g, h.1 g) a cA tys).2.1) = .ref a :: S.map (cv G.2.1) := by
    rw [List.map_cons, map_ext hE hS]
    simp [cv, gnew, va_rf]
  rw [h2] at h1
  exact h1
theorem s_new {idx g ci N : Nat} (hp : mt.2.2 pc = some (.new idx, 3, nx, tg, k0)) (hk : kd g = (ci, N)) (h13 : ci < 13) (hN : NOK mt.2.1 idx ci N) (hu : u + 1 ≤ kc) (hv : v + N ≤ ks)
    (k : R d kc ks (u + 1) (v + N) mt nx L (.inr (.inr (some (g, h.1 g))) :: S) (hnew h g) Q) : R d kc ks u v mt pc L S h Q := by
  intro l p e s m args below meth c A D G0 G H locs ls F I hS hL hl
  obtain ⟨hm, hx, hb, hr, hml, hown, hts, hlk, hnm⟩ := id F
  obtain ⟨hdg, hnx, htg, hck⟩ := hm.1 _ _ _ _ _ _ hp
  subst hnx
  obtain ⟨hKn, hA, hP, hD, hSS, hSh, hE⟩ := id I
  obtain ⟨T, hc, hin, hty, hcl, hinst, hini, hdf⟩ := hN
  refine va_new (ci := ci) (fs := (List.range N).map (fun j => dfl (tcode (fty ci j)))) (C := cnm ci) (T := T) (N := N) hx hb hts hin (fty ci) hty hown (hts _ hcl) (hts _ hinst) (hts _ hini) hKn.1 hP hD hSS hA hc (fun j hj => by rw [hdf j hj]; simp [vp_V, hj]) hu hv hdg (fun q H1 hP1 hD1 hS1 => ?_)
  have hce : cel (gnew G (g, h.1 g) q 0 G.2.2.2) (hnew h g) (g, h.1 g) = .inr (ci, (List.range N).map (fun j => dfl (tcode (fty ci j)))) := by
    rw [cel_obj hk h13]
    congr 2
    refine List.map_congr_left (fun j _ => ?_)
    unfold fvl dfl
    simp only [hnew, clr_at]
    rfl
  rw [← hce] at hP1 hD1
  exact new_go F (alloc_iv I hKn.1 (fun _ _ h => h) (fun h => by rw [hk] at h; exact absurd h (by show ¬ 13 ≤ ci; omega)) hP1 hD1 hS1) hSh hS hL hl k
theorem s_newarray {g kk N : Nat} {at1 : ArrayType} {x : Int32} (hp : mt.2.2 pc = some (.newarray at1, 2, nx, tg, k0)) (hk : kd g = (kk, N)) (hat : (at1 = .int ∧ kk = 13) ∨ (at1 = .long ∧ kk = 14) ∨ (at1 = .boolean ∧ kk = 15)) (harr : Cond.arrayClass (newarray.typeOf at1) ∈ TW) (hx0 : ¬ x < 0) (hxN : x.toNatClampNeg = N) (hb : N * 8 ≤ 536870912) (hu : u + 1 ≤ kc) (hv : v + N ≤ ks)
    (k : R d kc ks (u + 1) (v + N) mt nx L (.inr (.inr (some (g, h.1 g))) :: S) (hnew h g) Q) : R d kc ks u v mt pc L (.inl x :: S) h Q := by
  intro l p e s m args below meth c A D G0 G H locs ls F I hS hL hl
  obtain ⟨hm, hx, hbb, hr, hml, hown, hts, hlk, hnm⟩ := id F
  obtain ⟨hdg, hnx, htg, hck⟩ := hm.1 _ _ _ _ _ _ hp
  subst hnx
  obtain ⟨hKn, hA, hP, hD, hSS, hSh, hE⟩ := id I
  have hgo : ∀ (q : Nat) (cA : ClassId) (H1 : Heap) (ty : FieldType), ty = aty kk → va_K D cls (G.2.2.2 ++ [(cA, ty)]) s → va_P D cls (gw G h ++ [(q, cel (gnew G (g, h.1 g) q cA (G.2.2.2 ++ [(cA, ty)])) (hnew h g) (g, h.1 g))]) H1 → va_D A (gw G h ++ [(q, cel (gnew G (g, h.1 g) q cA (G.2.2.2 ++ [(cA, ty)])) (hnew h g) (g, h.1 g))]) → va_S A s.heap H1 locs → W p l e (rmv d kc ks) s m args below meth c H1 locs (u + 1) (v + N) (MQ below (Qp Q D G0 A) args s kc ks A) (F0 m (pc + 2) ls (.ref q :: S.map (cv G.2.1))) := by
    intro q cA H1 ty hty hK1 hP1 hD1 hS1
    refine new_go F (alloc_iv I hK1 (fun t y hy => ?_) (fun _ => ⟨G.2.2.2.length, ?_⟩) hP1 hD1 hS1) hSh (ok_tl hS) hL hl k
    · rw [List.getElem?_append_left (List.getElem?_eq_some_iff.mp hy).1]; exact hy
    · rw [List.getElem?_append_right (Nat.le_refl _), Nat.sub_self, hk, hty]; rfl
  rcases hat with ⟨rfl, rfl⟩ | ⟨rfl, rfl⟩ | ⟨rfl, rfl⟩
  · refine va_newa (atype := .int) (a0 := (N, .inl (fun _ => 0))) hx hbb (hts _ harr) rfl hKn.1 hP hD hSS hA (fun cA => rfl) hx0 hxN (Nat.le_trans (Nat.mul_le_mul_left N (by decide)) hb) hu hv hdg (fun q cA H1 hK1 hP1 hD1 hS1 => ?_)
    have hce : cel (gnew G (g, h.1 g) q cA (G.2.2.2 ++ [(cA, .int)])) (hnew h g) (g, h.1 g) = .inl (cA, N, .inl (fun _ => 0)) := by
      rw [cel_int hk]
      simp [gnew, hnew, clr]
    rw [← hce] at hP1 hD1
    exact hgo q cA H1 _ rfl hK1 hP1 hD1 hS1
  · refine va_newa (atype := .long) (a0 := (N, .inr (.inl (fun _ => 0)))) hx hbb (hts _ harr) rfl hKn.1 hP hD hSS hA (fun cA => rfl) hx0 hxN (Nat.le_trans (Nat.mul_le_mul_left N (by decide)) hb) hu hv hdg (fun q cA H1 hK1 hP1 hD1 hS1 => ?_)
    have hce : cel (gnew G (g, h.1 g) q cA (G.2.2.2 ++ [(cA, .long)])) (hnew h g) (g, h.1 g) = .inl (cA, N, .inr (.inl (fun _ => 0))) := by
      rw [cel_long hk]
      simp [gnew, hnew, clr]
    rw [← hce] at hP1 hD1
    exact hgo q cA H1 _ rfl hK1 hP1 hD1 hS1
  · refine va_newa (atype := .boolean) (a0 := (N, .inl (fun _ => 0))) hx hbb (hts _ harr) rfl hKn.1 hP hD hSS hA (fun cA => rfl) hx0 hxN (Nat.le_trans (Nat.mul_le_mul_left N (by decide)) hb) hu hv hdg (fun q cA H1 hK1 hP1 hD1 hS1 => ?_)
    have hce : cel (gnew G (g, h.1 g) q cA (G.2.2.2 ++ [(cA, .boolean)])) (hnew h g) (g, h.1 g) = .inl (cA, N, .inl (fun _ => 0)) := by
      rw [cel_bool hk]
      simp [gnew, hnew, clr]
    rw [← hce] at hP1 hD1
    exact hgo q cA H1 _ rfl hK1 hP1 hD1 hS1
theorem s_anewarray {idx g kk N : Nat} {C : String} {x : Int32} (hp : mt.2.2 pc = some (.anewarray idx, 3, nx, tg, k0)) (hk : kd g = (kk, N)) (h16 : 16 ≤ kk) (hC : aty kk = .object C) (hCn : C = "AlikeUnlike$Person" ∨ C = "AlikeUnlike$Script") (hcl : Cond.classLink (cnm mt.2.1) idx C ∈ TW) (hx0 : ¬ x < 0) (hxN : x.toNatClampNeg = N) (hb : N * 4 ≤ 536870912) (hu : u + 1 ≤ kc) (hv : v + N ≤ ks)
    (k : R d kc ks (u + 1) (v + N) mt nx L (.inr (.inr (some (g, h.1 g))) :: S) (hnew h g) Q) : R d kc ks u v mt pc L (.inl x :: S) h Q := by
  intro l p e s m args below meth c A D G0 G H locs ls F I hS hL hl
  obtain ⟨hm, hx, hbb, hr, hml, hown, hts, hlk, hnm⟩ := id F
  obtain ⟨hdg, hnx, htg, hck⟩ := hm.1 _ _ _ _ _ _ hp
  subst hnx
  obtain ⟨hKn, hA, hP, hD, hSS, hSh, hE⟩ := id I
  have hao : va_AO C s := by rcases hCn with rfl | rfl; · exact hKn.2.2.1
                             · exact hKn.2.2.2
  refine va_newq hx hbb hown (hts _ hcl) hao hKn.1 hP hD hSS hA hx0 hxN hb hu hv hdg (fun q cA H1 hK1 hP1 hD1 hS1 => ?_)
  have hce : cel (gnew G (g, h.1 g) q cA (G.2.2.2 ++ [(cA, .object C)])) (hnew h g) (g, h.1 g) = .inl (cA, N, .inr (.inr (.inr (.inr (fun _ => none))))) := by
    rw [cel_ref hk h16]
    simp [gnew, hnew, clr]
  rw [← hce] at hP1 hD1
  refine new_go F (alloc_iv I hK1 (fun t y hy => ?_) (fun _ => ⟨G.2.2.2.length, ?_⟩) hP1 hD1 hS1) hSh (ok_tl hS) hL hl k
  · rw [List.getElem?_append_left (List.getElem?_eq_some_iff.mp hy).1]; exact hy
  · rw [List.getElem?_append_right (Nat.le_refl _), Nat.sub_self, hk, hC]; rfl
theorem s_aastore {g i g2 i2 kk N ci n2 : Nat} {x : Int32} (hp : mt.2.2 pc = some (.aastore, 1, nx, tg, k0)) (hk : kd g = (kk, N)) (h16 : 16 ≤ kk) (hk2 : kd g2 = (ci, n2)) (h13 : ci < 13) {T : u_T} {N2 : Nat} (hcl : cls[ci]? = some (cnm ci, T, N2)) (hC : aty kk = .object (cnm ci)) (hin : vp_in x N)
    (k : R d kc ks u v mt nx L S (fput h g i x.toNatClampNeg (.inr (.inr (some (g2, i2))))) Q) : R d kc ks u v mt pc L (.inr (.inr (some (g2, i2))) :: .inl x :: .inr (.inr (some (g, i))) :: S) h Q := by
  intro l p e s m args below meth c A D G0 G H locs ls F I hS hL hl
  obtain ⟨hm, hx, hbb, hr, hml, hown, hts, hlk, hnm⟩ := id F
  obtain ⟨hdg, hnx, htg, hck⟩ := hm.1 _ _ _ _ _ _ hp
  subst hnx
  obtain ⟨hKn, hA, hP, hD, hSS, hSh, hE⟩ := id I
  have hq : (g, i) ∈ G.1 := ok_hd (ok_tl (ok_tl hS)) _ rfl
  have hq2 : (g2, i2) ∈ G.1 := ok_hd hS _ rfl
  obtain ⟨j, hj1, hj2⟩ := gw_at (h := h) hq
  obtain ⟨j', hj1', hj2'⟩ := gw_at (h := h) hq2
  obtain ⟨t0, ht0⟩ := hSh.2.2.2 _ hq (by rw [hk]; exact Nat.le_trans (Nat.le_of_ble_eq_true rfl) h16)
  rw [hk, show aty (kk, N).1 = .object (cnm ci) from hC] at ht0
  have hset := gw_set (h := h) (h' := fput h g i x.toNatClampNeg (.inr (.inr (some (g2, i2))))) hSh.1 hj1 fput_cel
  rw [cel_ref hk h16] at hj2 hset
  rw [cel_obj hk2 h13] at hj2'
  refine va_astq (cl := cls) (r := (cnm ci, T, N2)) hx hbb hKn.1 hP hD hSS j t0 j' ci hj2 ht0 hj2' hcl hin hdg (fun H1 locs1 hP1 hD1 hS1 => ?_)
  have he : (fun z => ((fput h g i x.toNatClampNeg (.inr (.inr (some (g2, i2))))).2.2.2 g i z).map G.2.1) = va_up (fun z => (h.2.2.2 g i z).map G.2.1) x.toNatClampNeg (some (G.2.1 (g2, i2))) := by
    funext z
    show ((up3 h.2.2.2 g i _ _ g i z).map G.2.1) = _
    rw [up3_at]
    unfold va_up
    by_cases hz : z = x.toNatClampNeg <;> simp [hz]
  rw [he] at hset
  rw [hset] at hP1 hD1
  exact k l p e s m args below meth c A D G0 G H1 locs1 ls F ⟨hKn, hA, hP1, hD1, hS1, fput_shp hSh (ok_hd hS), hE⟩ (ok_tl (ok_tl (ok_tl hS))) hL hl
def cpy3 (f : FI) (g i sp dp n : Nat) : FI := fun g' => if g' = g then (fun i' => if i' = i then va_cpy (f g i) (f g i) sp dp n else f g i') else f g'
theorem s_copy {idx g i N : Nat} {sp dp n : Int32} (hp : mt.2.2 pc = some (.invokestatic idx, 3, nx, tg, k0)) (hl1 : Cond.methodLink (cnm mt.2.1) idx arraycopyName ∈ TW) (hl2 : Cond.native arraycopyName ∈ TW) (hl3 : Cond.static arraycopyName ∈ TW) (hl4 : Cond.initialized "java/lang/System" ∈ TW) (hk : kd g = (13, N))
    (h1 : ¬ sp < 0) (h2 : ¬ dp < 0) (h3 : ¬ n < 0) (h4 : sp.toNatClampNeg + n.toNatClampNeg ≤ N) (h5 : dp.toNatClampNeg + n.toNatClampNeg ≤ N) (hd : 2 ≤ d) (hS8 : (S.map acat).sum ≤ 8)
    (k : R d kc ks u v mt nx L S (h.1, cpy3 h.2.1 g i sp.toNatClampNeg dp.toNatClampNeg n.toNatClampNeg, h.2.2.1, h.2.2.2) Q) : R d kc ks u v mt pc L (.inl n :: .inl dp :: .inr (.inr (some (g, i))) :: .inl sp :: .inr (.inr (some (g, i))) :: S) h Q := by
  intro l p e s m args below meth c A D G0 G H locs ls F I hS hL hl
  obtain ⟨hm, hx, hbb, hr, hml, hown, hts, hlk, hnm⟩ := id F
  obtain ⟨hdg, hnx, htg, hck⟩ := hm.1 _ _ _ _ _ _ hp
  subst hnx
  obtain ⟨hKn, hA, hP, hD, hSS, hSh, hE⟩ := id I
  have hq : (g, i) ∈ G.1 := ok_hd (ok_tl (ok_tl hS)) _ rfl
  obtain ⟨j, hj1, hj2⟩ := gw_at (h := h) hq
  obtain ⟨t0, ht0⟩ := hSh.2.2.2 _ hq (by rw [hk]; exact Nat.le_refl _)
  rw [hk] at ht0
  have hoth : ∀ q' ∈ G.1, q' ≠ (g, i) → cel G (h.1, cpy3 h.2.1 g i sp.toNatClampNeg dp.toNatClampNeg n.toNatClampNeg, h.2.2.1, h.2.2.2) q' = cel G h q' := by
    intro q' _ hne
    refine cel_ne ?_ rfl rfl
    obtain ⟨a, b⟩ := q'
    show cpy3 h.2.1 g i _ _ _ a b = h.2.1 a b
    unfold cpy3
    by_cases h1 : a = g
    · subst h1
      have h2 : b ≠ i := fun e => hne (by rw [e])
      simp [h2]
    · simp [h1]
  have hset := gw_set (h := h) (h' := (h.1, cpy3 h.2.1 g i sp.toNatClampNeg dp.toNatClampNeg n.toNatClampNeg, h.2.2.1, h.2.2.2)) hSh.1 hj1 hoth
  rw [cel_int hk] at hj2 hset
  refine va_copyi hx hbb (by rw [hml]; exact hl.1.symm) hown (hts _ hl1) (hts _ hl2) (hts _ hl3) (hts _ hl4) hKn.1 hP hD hSS j j t0 t0 hj2 hj2 ht0 ht0 rfl h1 h2 h3 h4 h5 (fun _ _ => rfl) (by show 1 ≤ d; omega) ?_ hdg (fun H1 locs1 hP1 hD1 hS1 => ?_)
  · rw [acat_sum]
    have : nativeFrameWords "java/lang/System" "arraycopy" 5 ≤ 60 := by decide +kernel
    show _ ≤ 64 * d
    omega
  · have he : cpy3 h.2.1 g i sp.toNatClampNeg dp.toNatClampNeg n.toNatClampNeg g i = va_cpy (h.2.1 g i) (h.2.1 g i) sp.toNatClampNeg dp.toNatClampNeg n.toNatClampNeg := by simp [cpy3]
    simp only [he] at hset
    rw [hset] at hP1 hD1
    exact k l p e s m args below meth c A D G0 G H1 locs1 ls F ⟨hKn, hA, hP1, hD1, hS1, hSh, hE⟩ (ok_tl (ok_tl (ok_tl (ok_tl (ok_tl hS))))) hL hl
end RN
end
