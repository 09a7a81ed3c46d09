-- ===== PART A: goes FIRST, ahead of the names: the tables' words, and 'selects' of the private methods out of them =====
/-- a private method of a class that the tables say can be made, by its rows of tables_1 -/
def lw_okq (q : MethodName × Nat) : Prop := (q.1.cls ≠ "java/lang/invoke/MethodHandle" ∧ q.1.cls ≠ "java/lang/invoke/VarHandle") ∧ Cond.instantiable q.1.cls q.2 ∈ tables_1 ∧ Cond.privateMethod q.1 ∈ tables_1 ∧ Cond.instanceMethod q.1 ∈ tables_1
theorem lw_p0 : lw_okq (⟨"EveryonesThirdWord", "refuse", "(I)I"⟩, 10) := ⟨⟨by decide +kernel, by decide +kernel⟩, List.mem_of_getElem? (i := 19) (by decide +kernel), List.mem_of_getElem? (i := 243) (by decide +kernel), List.mem_of_getElem? (i := 244) (by decide +kernel)⟩
theorem lw_p1 : lw_okq (⟨"EveryonesThirdWord", "rowRefusal", "(I)I"⟩, 10) := ⟨⟨by decide +kernel, by decide +kernel⟩, List.mem_of_getElem? (i := 19) (by decide +kernel), List.mem_of_getElem? (i := 255) (by decide +kernel), List.mem_of_getElem? (i := 256) (by decide +kernel)⟩
theorem lw_p2 : lw_okq (⟨"EveryonesThirdWord", "tellRefusal", "(II)I"⟩, 10) := ⟨⟨by decide +kernel, by decide +kernel⟩, List.mem_of_getElem? (i := 19) (by decide +kernel), List.mem_of_getElem? (i := 394) (by decide +kernel), List.mem_of_getElem? (i := 395) (by decide +kernel)⟩
theorem lw_p3 : lw_okq (⟨"EveryonesThirdWord$Reader", "readItem", "(LEveryonesThirdWord$Shelf;)V"⟩, 4) := ⟨⟨by decide +kernel, by decide +kernel⟩, List.mem_of_getElem? (i := 127) (by decide +kernel), List.mem_of_getElem? (i := 440) (by decide +kernel), List.mem_of_getElem? (i := 441) (by decide +kernel)⟩
theorem lw_p4 : lw_okq (⟨"EveryonesThirdWord$Reader", "takeWord", "(LEveryonesThirdWord$Shelf;Ljava/lang/String;)V"⟩, 4) := ⟨⟨by decide +kernel, by decide +kernel⟩, List.mem_of_getElem? (i := 127) (by decide +kernel), List.mem_of_getElem? (i := 456) (by decide +kernel), List.mem_of_getElem? (i := 457) (by decide +kernel)⟩
theorem lw_p5 : lw_okq (⟨"EveryonesThirdWord$Reader", "take", "(LEveryonesThirdWord$Shelf;I)V"⟩, 4) := ⟨⟨by decide +kernel, by decide +kernel⟩, List.mem_of_getElem? (i := 127) (by decide +kernel), List.mem_of_getElem? (i := 508) (by decide +kernel), List.mem_of_getElem? (i := 509) (by decide +kernel)⟩
theorem lw_p6 : lw_okq (⟨"EveryonesThirdWord$Reader", "lacksRoom", "(I)Z"⟩, 4) := ⟨⟨by decide +kernel, by decide +kernel⟩, List.mem_of_getElem? (i := 127) (by decide +kernel), List.mem_of_getElem? (i := 513) (by decide +kernel), List.mem_of_getElem? (i := 514) (by decide +kernel)⟩
theorem lw_p7 : lw_okq (⟨"EveryonesThirdWord$Reader", "readMan", "(LEveryonesThirdWord$Shelf;)V"⟩, 4) := ⟨⟨by decide +kernel, by decide +kernel⟩, List.mem_of_getElem? (i := 127) (by decide +kernel), List.mem_of_getElem? (i := 517) (by decide +kernel), List.mem_of_getElem? (i := 518) (by decide +kernel)⟩
theorem lw_p8 : lw_okq (⟨"EveryonesThirdWord$Reader", "takeNumber", "(LEveryonesThirdWord$Shelf;I)I"⟩, 4) := ⟨⟨by decide +kernel, by decide +kernel⟩, List.mem_of_getElem? (i := 127) (by decide +kernel), List.mem_of_getElem? (i := 521) (by decide +kernel), List.mem_of_getElem? (i := 522) (by decide +kernel)⟩
theorem lw_p9 : lw_okq (⟨"EveryonesThirdWord$Reader", "readMeeting", "(LEveryonesThirdWord$Shelf;Z)V"⟩, 4) := ⟨⟨by decide +kernel, by decide +kernel⟩, List.mem_of_getElem? (i := 127) (by decide +kernel), List.mem_of_getElem? (i := 529) (by decide +kernel), List.mem_of_getElem? (i := 530) (by decide +kernel)⟩
theorem lw_p10 : lw_okq (⟨"EveryonesThirdWord$Reader", "readWord", "(LEveryonesThirdWord$Shelf;)V"⟩, 4) := ⟨⟨by decide +kernel, by decide +kernel⟩, List.mem_of_getElem? (i := 127) (by decide +kernel), List.mem_of_getElem? (i := 534) (by decide +kernel), List.mem_of_getElem? (i := 535) (by decide +kernel)⟩
theorem lw_p11 : lw_okq (⟨"EveryonesThirdWord", "refuseFar", "(I)I"⟩, 10) := ⟨⟨by decide +kernel, by decide +kernel⟩, List.mem_of_getElem? (i := 19) (by decide +kernel), List.mem_of_getElem? (i := 553) (by decide +kernel), List.mem_of_getElem? (i := 554) (by decide +kernel)⟩
theorem lw_p12 : lw_okq (⟨"EveryonesThirdWord", "knownBehind", "(II)I"⟩, 10) := ⟨⟨by decide +kernel, by decide +kernel⟩, List.mem_of_getElem? (i := 19) (by decide +kernel), List.mem_of_getElem? (i := 560) (by decide +kernel), List.mem_of_getElem? (i := 561) (by decide +kernel)⟩
theorem lw_p13 : lw_okq (⟨"EveryonesThirdWord$Coaches", "rideOnce", "()V"⟩, 4) := ⟨⟨by decide +kernel, by decide +kernel⟩, List.mem_of_getElem? (i := 149) (by decide +kernel), List.mem_of_getElem? (i := 573) (by decide +kernel), List.mem_of_getElem? (i := 574) (by decide +kernel)⟩
theorem lw_p14 : lw_okq (⟨"EveryonesThirdWord$Council", "listen", "(LEveryonesThirdWord$Court;)V"⟩, 2) := ⟨⟨by decide +kernel, by decide +kernel⟩, List.mem_of_getElem? (i := 169) (by decide +kernel), List.mem_of_getElem? (i := 615) (by decide +kernel), List.mem_of_getElem? (i := 616) (by decide +kernel)⟩
theorem lw_p15 : lw_okq (⟨"EveryonesThirdWord$Council", "heardByAny", "(I)I"⟩, 2) := ⟨⟨by decide +kernel, by decide +kernel⟩, List.mem_of_getElem? (i := 169) (by decide +kernel), List.mem_of_getElem? (i := 620) (by decide +kernel), List.mem_of_getElem? (i := 621) (by decide +kernel)⟩
def lw_privs_1 : List (MethodName × Nat) := [(⟨"EveryonesThirdWord", "refuse", "(I)I"⟩, 10), (⟨"EveryonesThirdWord", "rowRefusal", "(I)I"⟩, 10), (⟨"EveryonesThirdWord", "tellRefusal", "(II)I"⟩, 10), (⟨"EveryonesThirdWord$Reader", "readItem", "(LEveryonesThirdWord$Shelf;)V"⟩, 4), (⟨"EveryonesThirdWord$Reader", "takeWord", "(LEveryonesThirdWord$Shelf;Ljava/lang/String;)V"⟩, 4), (⟨"EveryonesThirdWord$Reader", "take", "(LEveryonesThirdWord$Shelf;I)V"⟩, 4), (⟨"EveryonesThirdWord$Reader", "lacksRoom", "(I)Z"⟩, 4), (⟨"EveryonesThirdWord$Reader", "readMan", "(LEveryonesThirdWord$Shelf;)V"⟩, 4), (⟨"EveryonesThirdWord$Reader", "takeNumber", "(LEveryonesThirdWord$Shelf;I)I"⟩, 4), (⟨"EveryonesThirdWord$Reader", "readMeeting", "(LEveryonesThirdWord$Shelf;Z)V"⟩, 4), (⟨"EveryonesThirdWord$Reader", "readWord", "(LEveryonesThirdWord$Shelf;)V"⟩, 4), (⟨"EveryonesThirdWord", "refuseFar", "(I)I"⟩, 10), (⟨"EveryonesThirdWord", "knownBehind", "(II)I"⟩, 10), (⟨"EveryonesThirdWord$Coaches", "rideOnce", "()V"⟩, 4), (⟨"EveryonesThirdWord$Council", "listen", "(LEveryonesThirdWord$Court;)V"⟩, 2), (⟨"EveryonesThirdWord$Council", "heardByAny", "(I)I"⟩, 2)]
theorem lw_r1 : ∀ q ∈ lw_privs_1, lw_okq q := List.forall_mem_cons.mpr ⟨lw_p0, List.forall_mem_cons.mpr ⟨lw_p1, List.forall_mem_cons.mpr ⟨lw_p2, List.forall_mem_cons.mpr ⟨lw_p3, List.forall_mem_cons.mpr ⟨lw_p4, List.forall_mem_cons.mpr ⟨lw_p5, List.forall_mem_cons.mpr ⟨lw_p6, List.forall_mem_cons.mpr ⟨lw_p7, List.forall_mem_cons.mpr ⟨lw_p8, List.forall_mem_cons.mpr ⟨lw_p9, List.forall_mem_cons.mpr ⟨lw_p10, List.forall_mem_cons.mpr ⟨lw_p11, List.forall_mem_cons.mpr ⟨lw_p12, List.forall_mem_cons.mpr ⟨lw_p13, List.forall_mem_cons.mpr ⟨lw_p14, List.forall_mem_cons.mpr ⟨lw_p15, fun _ h => absurd h List.not_mem_nil⟩⟩⟩⟩⟩⟩⟩⟩⟩⟩⟩⟩⟩⟩⟩⟩
theorem lw_p16 : lw_okq (⟨"EveryonesThirdWord$Coaches", "sendAway", "(I)V"⟩, 4) := ⟨⟨by decide +kernel, by decide +kernel⟩, List.mem_of_getElem? (i := 149) (by decide +kernel), List.mem_of_getElem? (i := 678) (by decide +kernel), List.mem_of_getElem? (i := 679) (by decide +kernel)⟩
theorem lw_p17 : lw_okq (⟨"EveryonesThirdWord$Coaches", "howManyHaveWhole", "(LEveryonesThirdWord$Court;)I"⟩, 4) := ⟨⟨by decide +kernel, by decide +kernel⟩, List.mem_of_getElem? (i := 149) (by decide +kernel), List.mem_of_getElem? (i := 693) (by decide +kernel), List.mem_of_getElem? (i := 694) (by decide +kernel)⟩
theorem lw_p18 : lw_okq (⟨"EveryonesThirdWord$Council", "slipHearsJust", "(LEveryonesThirdWord$Court;IILEveryonesThirdWord$Shelf;)Z"⟩, 2) := ⟨⟨by decide +kernel, by decide +kernel⟩, List.mem_of_getElem? (i := 169) (by decide +kernel), List.mem_of_getElem? (i := 734) (by decide +kernel), List.mem_of_getElem? (i := 735) (by decide +kernel)⟩
theorem lw_p19 : lw_okq (⟨"EveryonesThirdWord$Council", "isJust", "(LEveryonesThirdWord$Court;ILEveryonesThirdWord$Shelf;)Z"⟩, 2) := ⟨⟨by decide +kernel, by decide +kernel⟩, List.mem_of_getElem? (i := 169) (by decide +kernel), List.mem_of_getElem? (i := 739) (by decide +kernel), List.mem_of_getElem? (i := 740) (by decide +kernel)⟩
theorem lw_p20 : lw_okq (⟨"EveryonesThirdWord$Council", "howManyHaveSense", "(II)I"⟩, 2) := ⟨⟨by decide +kernel, by decide +kernel⟩, List.mem_of_getElem? (i := 169) (by decide +kernel), List.mem_of_getElem? (i := 764) (by decide +kernel), List.mem_of_getElem? (i := 765) (by decide +kernel)⟩
theorem lw_p21 : lw_okq (⟨"EveryonesThirdWord$Council", "exchange", "(II)V"⟩, 2) := ⟨⟨by decide +kernel, by decide +kernel⟩, List.mem_of_getElem? (i := 169) (by decide +kernel), List.mem_of_getElem? (i := 768) (by decide +kernel), List.mem_of_getElem? (i := 769) (by decide +kernel)⟩
theorem lw_p22 : lw_okq (⟨"EveryonesThirdWord", "hold", "(I)I"⟩, 10) := ⟨⟨by decide +kernel, by decide +kernel⟩, List.mem_of_getElem? (i := 19) (by decide +kernel), List.mem_of_getElem? (i := 789) (by decide +kernel), List.mem_of_getElem? (i := 790) (by decide +kernel)⟩
theorem lw_p23 : lw_okq (⟨"EveryonesThirdWord$Court", "drawUpper", "()I"⟩, 5) := ⟨⟨by decide +kernel, by decide +kernel⟩, List.mem_of_getElem? (i := 27) (by decide +kernel), List.mem_of_getElem? (i := 806) (by decide +kernel), List.mem_of_getElem? (i := 807) (by decide +kernel)⟩
theorem lw_p24 : lw_okq (⟨"EveryonesThirdWord$Moves", "note", "(I)V"⟩, 5) := ⟨⟨by decide +kernel, by decide +kernel⟩, List.mem_of_getElem? (i := 182) (by decide +kernel), List.mem_of_getElem? (i := 838) (by decide +kernel), List.mem_of_getElem? (i := 839) (by decide +kernel)⟩
theorem lw_p25 : lw_okq (⟨"EveryonesThirdWordModel", "no", "(I)I"⟩, 26) := ⟨⟨by decide +kernel, by decide +kernel⟩, List.mem_of_getElem? (i := 876) (by decide +kernel), List.mem_of_getElem? (i := 968) (by decide +kernel), List.mem_of_getElem? (i := 969) (by decide +kernel)⟩
theorem lw_p26 : lw_okq (⟨"EveryonesThirdWordModel", "noRow", "(I)I"⟩, 26) := ⟨⟨by decide +kernel, by decide +kernel⟩, List.mem_of_getElem? (i := 876) (by decide +kernel), List.mem_of_getElem? (i := 976) (by decide +kernel), List.mem_of_getElem? (i := 977) (by decide +kernel)⟩
theorem lw_p27 : lw_okq (⟨"EveryonesThirdWordModel", "isRow", "(I)Z"⟩, 26) := ⟨⟨by decide +kernel, by decide +kernel⟩, List.mem_of_getElem? (i := 876) (by decide +kernel), List.mem_of_getElem? (i := 980) (by decide +kernel), List.mem_of_getElem? (i := 981) (by decide +kernel)⟩
theorem lw_p28 : lw_okq (⟨"EveryonesThirdWordModel", "isMan", "(I)Z"⟩, 26) := ⟨⟨by decide +kernel, by decide +kernel⟩, List.mem_of_getElem? (i := 876) (by decide +kernel), List.mem_of_getElem? (i := 996) (by decide +kernel), List.mem_of_getElem? (i := 997) (by decide +kernel)⟩
theorem lw_p29 : lw_okq (⟨"EveryonesThirdWordModel", "hisOf", "(I)I"⟩, 26) := ⟨⟨by decide +kernel, by decide +kernel⟩, List.mem_of_getElem? (i := 876) (by decide +kernel), List.mem_of_getElem? (i := 1014) (by decide +kernel), List.mem_of_getElem? (i := 1015) (by decide +kernel)⟩
theorem lw_p30 : lw_okq (⟨"EveryonesThirdWordModel", "his", "(III)I"⟩, 26) := ⟨⟨by decide +kernel, by decide +kernel⟩, List.mem_of_getElem? (i := 876) (by decide +kernel), List.mem_of_getElem? (i := 1018) (by decide +kernel), List.mem_of_getElem? (i := 1019) (by decide +kernel)⟩
theorem lw_p31 : lw_okq (⟨"EveryonesThirdWordModel", "newMan", "(III)I"⟩, 26) := ⟨⟨by decide +kernel, by decide +kernel⟩, List.mem_of_getElem? (i := 876) (by decide +kernel), List.mem_of_getElem? (i := 1027) (by decide +kernel), List.mem_of_getElem? (i := 1028) (by decide +kernel)⟩
def lw_privs_2 : List (MethodName × Nat) := [(⟨"EveryonesThirdWord$Coaches", "sendAway", "(I)V"⟩, 4), (⟨"EveryonesThirdWord$Coaches", "howManyHaveWhole", "(LEveryonesThirdWord$Court;)I"⟩, 4), (⟨"EveryonesThirdWord$Council", "slipHearsJust", "(LEveryonesThirdWord$Court;IILEveryonesThirdWord$Shelf;)Z"⟩, 2), (⟨"EveryonesThirdWord$Council", "isJust", "(LEveryonesThirdWord$Court;ILEveryonesThirdWord$Shelf;)Z"⟩, 2), (⟨"EveryonesThirdWord$Council", "howManyHaveSense", "(II)I"⟩, 2), (⟨"EveryonesThirdWord$Council", "exchange", "(II)V"⟩, 2), (⟨"EveryonesThirdWord", "hold", "(I)I"⟩, 10), (⟨"EveryonesThirdWord$Court", "drawUpper", "()I"⟩, 5), (⟨"EveryonesThirdWord$Moves", "note", "(I)V"⟩, 5), (⟨"EveryonesThirdWordModel", "no", "(I)I"⟩, 26), (⟨"EveryonesThirdWordModel", "noRow", "(I)I"⟩, 26), (⟨"EveryonesThirdWordModel", "isRow", "(I)Z"⟩, 26), (⟨"EveryonesThirdWordModel", "isMan", "(I)Z"⟩, 26), (⟨"EveryonesThirdWordModel", "hisOf", "(I)I"⟩, 26), (⟨"EveryonesThirdWordModel", "his", "(III)I"⟩, 26), (⟨"EveryonesThirdWordModel", "newMan", "(III)I"⟩, 26)]
theorem lw_r2 : ∀ q ∈ lw_privs_2, lw_okq q := List.forall_mem_cons.mpr ⟨lw_p16, List.forall_mem_cons.mpr ⟨lw_p17, List.forall_mem_cons.mpr ⟨lw_p18, List.forall_mem_cons.mpr ⟨lw_p19, List.forall_mem_cons.mpr ⟨lw_p20, List.forall_mem_cons.mpr ⟨lw_p21, List.forall_mem_cons.mpr ⟨lw_p22, List.forall_mem_cons.mpr ⟨lw_p23, List.forall_mem_cons.mpr ⟨lw_p24, List.forall_mem_cons.mpr ⟨lw_p25, List.forall_mem_cons.mpr ⟨lw_p26, List.forall_mem_cons.mpr ⟨lw_p27, List.forall_mem_cons.mpr ⟨lw_p28, List.forall_mem_cons.mpr ⟨lw_p29, List.forall_mem_cons.mpr ⟨lw_p30, List.forall_mem_cons.mpr ⟨lw_p31, fun _ h => absurd h List.not_mem_nil⟩⟩⟩⟩⟩⟩⟩⟩⟩⟩⟩⟩⟩⟩⟩⟩
theorem lw_p32 : lw_okq (⟨"EveryonesThirdWordModel", "meeting", "(IIZ)V"⟩, 26) := ⟨⟨by decide +kernel, by decide +kernel⟩, List.mem_of_getElem? (i := 876) (by decide +kernel), List.mem_of_getElem? (i := 1042) (by decide +kernel), List.mem_of_getElem? (i := 1043) (by decide +kernel)⟩
theorem lw_p33 : lw_okq (⟨"EveryonesThirdWordModel", "noSaying", "(II)I"⟩, 26) := ⟨⟨by decide +kernel, by decide +kernel⟩, List.mem_of_getElem? (i := 876) (by decide +kernel), List.mem_of_getElem? (i := 1050) (by decide +kernel), List.mem_of_getElem? (i := 1051) (by decide +kernel)⟩
theorem lw_p34 : lw_okq (⟨"EveryonesThirdWordModel", "wrong", "(II)I"⟩, 26) := ⟨⟨by decide +kernel, by decide +kernel⟩, List.mem_of_getElem? (i := 876) (by decide +kernel), List.mem_of_getElem? (i := 1054) (by decide +kernel), List.mem_of_getElem? (i := 1055) (by decide +kernel)⟩
theorem lw_p35 : lw_okq (⟨"EveryonesThirdWordModel", "told", "(II)I"⟩, 26) := ⟨⟨by decide +kernel, by decide +kernel⟩, List.mem_of_getElem? (i := 876) (by decide +kernel), List.mem_of_getElem? (i := 1058) (by decide +kernel), List.mem_of_getElem? (i := 1059) (by decide +kernel)⟩
theorem lw_p36 : lw_okq (⟨"EveryonesThirdWordModel", "keep", "([I)V"⟩, 26) := ⟨⟨by decide +kernel, by decide +kernel⟩, List.mem_of_getElem? (i := 876) (by decide +kernel), List.mem_of_getElem? (i := 1073) (by decide +kernel), List.mem_of_getElem? (i := 1074) (by decide +kernel)⟩
theorem lw_p37 : lw_okq (⟨"EveryonesThirdWordModel", "item", "()Z"⟩, 26) := ⟨⟨by decide +kernel, by decide +kernel⟩, List.mem_of_getElem? (i := 876) (by decide +kernel), List.mem_of_getElem? (i := 1077) (by decide +kernel), List.mem_of_getElem? (i := 1078) (by decide +kernel)⟩
theorem lw_p38 : lw_okq (⟨"EveryonesThirdWordModel", "sign", "()I"⟩, 26) := ⟨⟨by decide +kernel, by decide +kernel⟩, List.mem_of_getElem? (i := 876) (by decide +kernel), List.mem_of_getElem? (i := 1081) (by decide +kernel), List.mem_of_getElem? (i := 1082) (by decide +kernel)⟩
theorem lw_p39 : lw_okq (⟨"EveryonesThirdWordModel", "word", "(Ljava/lang/String;)Z"⟩, 26) := ⟨⟨by decide +kernel, by decide +kernel⟩, List.mem_of_getElem? (i := 876) (by decide +kernel), List.mem_of_getElem? (i := 1086) (by decide +kernel), List.mem_of_getElem? (i := 1087) (by decide +kernel)⟩
theorem lw_p40 : lw_okq (⟨"EveryonesThirdWordModel", "is", "(C)Z"⟩, 26) := ⟨⟨by decide +kernel, by decide +kernel⟩, List.mem_of_getElem? (i := 876) (by decide +kernel), List.mem_of_getElem? (i := 1092) (by decide +kernel), List.mem_of_getElem? (i := 1093) (by decide +kernel)⟩
theorem lw_p41 : lw_okq (⟨"EveryonesThirdWordModel", "two", "(Z)Z"⟩, 26) := ⟨⟨by decide +kernel, by decide +kernel⟩, List.mem_of_getElem? (i := 876) (by decide +kernel), List.mem_of_getElem? (i := 1096) (by decide +kernel), List.mem_of_getElem? (i := 1097) (by decide +kernel)⟩
theorem lw_p42 : lw_okq (⟨"EveryonesThirdWordModel", "number", "(III)Z"⟩, 26) := ⟨⟨by decide +kernel, by decide +kernel⟩, List.mem_of_getElem? (i := 876) (by decide +kernel), List.mem_of_getElem? (i := 1100) (by decide +kernel), List.mem_of_getElem? (i := 1101) (by decide +kernel)⟩
theorem lw_p43 : lw_okq (⟨"EveryonesThirdWordModel", "stands", "(IZ)Z"⟩, 26) := ⟨⟨by decide +kernel, by decide +kernel⟩, List.mem_of_getElem? (i := 876) (by decide +kernel), List.mem_of_getElem? (i := 1104) (by decide +kernel), List.mem_of_getElem? (i := 1105) (by decide +kernel)⟩
theorem lw_p44 : lw_okq (⟨"EveryonesThirdWordModel", "word", "(Ljava/lang/String;Z)Z"⟩, 26) := ⟨⟨by decide +kernel, by decide +kernel⟩, List.mem_of_getElem? (i := 876) (by decide +kernel), List.mem_of_getElem? (i := 1109) (by decide +kernel), List.mem_of_getElem? (i := 1110) (by decide +kernel)⟩
theorem lw_p45 : lw_okq (⟨"EveryonesThirdWordModel", "again", "([I)V"⟩, 26) := ⟨⟨by decide +kernel, by decide +kernel⟩, List.mem_of_getElem? (i := 876) (by decide +kernel), List.mem_of_getElem? (i := 1116) (by decide +kernel), List.mem_of_getElem? (i := 1117) (by decide +kernel)⟩
theorem lw_p46 : lw_okq (⟨"EveryonesThirdWordModel", "no10", "(I)I"⟩, 26) := ⟨⟨by decide +kernel, by decide +kernel⟩, List.mem_of_getElem? (i := 876) (by decide +kernel), List.mem_of_getElem? (i := 1132) (by decide +kernel), List.mem_of_getElem? (i := 1133) (by decide +kernel)⟩
theorem lw_p47 : lw_okq (⟨"EveryonesThirdWordModel", "goOn", "(I)V"⟩, 26) := ⟨⟨by decide +kernel, by decide +kernel⟩, List.mem_of_getElem? (i := 876) (by decide +kernel), List.mem_of_getElem? (i := 1139) (by decide +kernel), List.mem_of_getElem? (i := 1140) (by decide +kernel)⟩
def lw_privs_3 : List (MethodName × Nat) := [(⟨"EveryonesThirdWordModel", "meeting", "(IIZ)V"⟩, 26), (⟨"EveryonesThirdWordModel", "noSaying", "(II)I"⟩, 26), (⟨"EveryonesThirdWordModel", "wrong", "(II)I"⟩, 26), (⟨"EveryonesThirdWordModel", "told", "(II)I"⟩, 26), (⟨"EveryonesThirdWordModel", "keep", "([I)V"⟩, 26), (⟨"EveryonesThirdWordModel", "item", "()Z"⟩, 26), (⟨"EveryonesThirdWordModel", "sign", "()I"⟩, 26), (⟨"EveryonesThirdWordModel", "word", "(Ljava/lang/String;)Z"⟩, 26), (⟨"EveryonesThirdWordModel", "is", "(C)Z"⟩, 26), (⟨"EveryonesThirdWordModel", "two", "(Z)Z"⟩, 26), (⟨"EveryonesThirdWordModel", "number", "(III)Z"⟩, 26), (⟨"EveryonesThirdWordModel", "stands", "(IZ)Z"⟩, 26), (⟨"EveryonesThirdWordModel", "word", "(Ljava/lang/String;Z)Z"⟩, 26), (⟨"EveryonesThirdWordModel", "again", "([I)V"⟩, 26), (⟨"EveryonesThirdWordModel", "no10", "(I)I"⟩, 26), (⟨"EveryonesThirdWordModel", "goOn", "(I)V"⟩, 26)]
theorem lw_r3 : ∀ q ∈ lw_privs_3, lw_okq q := List.forall_mem_cons.mpr ⟨lw_p32, List.forall_mem_cons.mpr ⟨lw_p33, List.forall_mem_cons.mpr ⟨lw_p34, List.forall_mem_cons.mpr ⟨lw_p35, List.forall_mem_cons.mpr ⟨lw_p36, List.forall_mem_cons.mpr ⟨lw_p37, List.forall_mem_cons.mpr ⟨lw_p38, List.forall_mem_cons.mpr ⟨lw_p39, List.forall_mem_cons.mpr ⟨lw_p40, List.forall_mem_cons.mpr ⟨lw_p41, List.forall_mem_cons.mpr ⟨lw_p42, List.forall_mem_cons.mpr ⟨lw_p43, List.forall_mem_cons.mpr ⟨lw_p44, List.forall_mem_cons.mpr ⟨lw_p45, List.forall_mem_cons.mpr ⟨lw_p46, List.forall_mem_cons.mpr ⟨lw_p47, fun _ h => absurd h List.not_mem_nil⟩⟩⟩⟩⟩⟩⟩⟩⟩⟩⟩⟩⟩⟩⟩⟩
theorem lw_p48 : lw_okq (⟨"EveryonesThirdWordModel", "round", "()V"⟩, 26) := ⟨⟨by decide +kernel, by decide +kernel⟩, List.mem_of_getElem? (i := 876) (by decide +kernel), List.mem_of_getElem? (i := 1143) (by decide +kernel), List.mem_of_getElem? (i := 1144) (by decide +kernel)⟩
theorem lw_p49 : lw_okq (⟨"EveryonesThirdWordModel", "senseOf", "(I)I"⟩, 26) := ⟨⟨by decide +kernel, by decide +kernel⟩, List.mem_of_getElem? (i := 876) (by decide +kernel), List.mem_of_getElem? (i := 1147) (by decide +kernel), List.mem_of_getElem? (i := 1148) (by decide +kernel)⟩
theorem lw_p50 : lw_okq (⟨"EveryonesThirdWordModel", "wholeOf", "()I"⟩, 26) := ⟨⟨by decide +kernel, by decide +kernel⟩, List.mem_of_getElem? (i := 876) (by decide +kernel), List.mem_of_getElem? (i := 1155) (by decide +kernel), List.mem_of_getElem? (i := 1156) (by decide +kernel)⟩
theorem lw_p51 : lw_okq (⟨"EveryonesThirdWordModel", "isSet", "(I)Z"⟩, 26) := ⟨⟨by decide +kernel, by decide +kernel⟩, List.mem_of_getElem? (i := 876) (by decide +kernel), List.mem_of_getElem? (i := 1171) (by decide +kernel), List.mem_of_getElem? (i := 1172) (by decide +kernel)⟩
theorem lw_p52 : lw_okq (⟨"EveryonesThirdWordModel", "heardBy", "(I)I"⟩, 26) := ⟨⟨by decide +kernel, by decide +kernel⟩, List.mem_of_getElem? (i := 876) (by decide +kernel), List.mem_of_getElem? (i := 1175) (by decide +kernel), List.mem_of_getElem? (i := 1176) (by decide +kernel)⟩
theorem lw_p53 : lw_okq (⟨"EveryonesThirdWordModel", "isSure", "(I)Z"⟩, 26) := ⟨⟨by decide +kernel, by decide +kernel⟩, List.mem_of_getElem? (i := 876) (by decide +kernel), List.mem_of_getElem? (i := 1179) (by decide +kernel), List.mem_of_getElem? (i := 1180) (by decide +kernel)⟩
theorem lw_p54 : lw_okq (⟨"EveryonesThirdWordModel", "soonOf", "(I)I"⟩, 26) := ⟨⟨by decide +kernel, by decide +kernel⟩, List.mem_of_getElem? (i := 876) (by decide +kernel), List.mem_of_getElem? (i := 1198) (by decide +kernel), List.mem_of_getElem? (i := 1199) (by decide +kernel)⟩
theorem lw_p55 : lw_okq (⟨"EveryonesThirdWordModel", "haveIt", "()I"⟩, 26) := ⟨⟨by decide +kernel, by decide +kernel⟩, List.mem_of_getElem? (i := 876) (by decide +kernel), List.mem_of_getElem? (i := 1214) (by decide +kernel), List.mem_of_getElem? (i := 1215) (by decide +kernel)⟩
theorem lw_p56 : lw_okq (⟨"EveryonesThirdWordModel", "speaks", "(II)I"⟩, 26) := ⟨⟨by decide +kernel, by decide +kernel⟩, List.mem_of_getElem? (i := 876) (by decide +kernel), List.mem_of_getElem? (i := 1225) (by decide +kernel), List.mem_of_getElem? (i := 1226) (by decide +kernel)⟩
theorem lw_p57 : lw_okq (⟨"EveryonesThirdWordModel", "wanted", "(II)I"⟩, 26) := ⟨⟨by decide +kernel, by decide +kernel⟩, List.mem_of_getElem? (i := 876) (by decide +kernel), List.mem_of_getElem? (i := 1234) (by decide +kernel), List.mem_of_getElem? (i := 1235) (by decide +kernel)⟩
theorem lw_p58 : lw_okq (⟨"EveryonesThirdWordModel", "isHeard", "(II)Z"⟩, 26) := ⟨⟨by decide +kernel, by decide +kernel⟩, List.mem_of_getElem? (i := 876) (by decide +kernel), List.mem_of_getElem? (i := 1242) (by decide +kernel), List.mem_of_getElem? (i := 1243) (by decide +kernel)⟩
theorem lw_p59 : lw_okq (⟨"EveryonesThirdWordModel", "senses", "()I"⟩, 26) := ⟨⟨by decide +kernel, by decide +kernel⟩, List.mem_of_getElem? (i := 876) (by decide +kernel), List.mem_of_getElem? (i := 1254) (by decide +kernel), List.mem_of_getElem? (i := 1255) (by decide +kernel)⟩
theorem lw_p60 : lw_okq (⟨"EveryonesThirdWordModel", "change", "(II)V"⟩, 26) := ⟨⟨by decide +kernel, by decide +kernel⟩, List.mem_of_getElem? (i := 876) (by decide +kernel), List.mem_of_getElem? (i := 1258) (by decide +kernel), List.mem_of_getElem? (i := 1259) (by decide +kernel)⟩
theorem lw_p61 : lw_okq (⟨"EveryonesThirdWordModel", "heard", "(I)I"⟩, 26) := ⟨⟨by decide +kernel, by decide +kernel⟩, List.mem_of_getElem? (i := 876) (by decide +kernel), List.mem_of_getElem? (i := 1274) (by decide +kernel), List.mem_of_getElem? (i := 1275) (by decide +kernel)⟩
theorem lw_p62 : lw_okq (⟨"EveryonesThirdWordModel", "draw", "(I)I"⟩, 26) := ⟨⟨by decide +kernel, by decide +kernel⟩, List.mem_of_getElem? (i := 876) (by decide +kernel), List.mem_of_getElem? (i := 1282) (by decide +kernel), List.mem_of_getElem? (i := 1283) (by decide +kernel)⟩
theorem lw_p63 : lw_okq (⟨"EveryonesThirdWordModel", "hearsBy", "(II)I"⟩, 26) := ⟨⟨by decide +kernel, by decide +kernel⟩, List.mem_of_getElem? (i := 876) (by decide +kernel), List.mem_of_getElem? (i := 1295) (by decide +kernel), List.mem_of_getElem? (i := 1296) (by decide +kernel)⟩
def lw_privs_4 : List (MethodName × Nat) := [(⟨"EveryonesThirdWordModel", "round", "()V"⟩, 26), (⟨"EveryonesThirdWordModel", "senseOf", "(I)I"⟩, 26), (⟨"EveryonesThirdWordModel", "wholeOf", "()I"⟩, 26), (⟨"EveryonesThirdWordModel", "isSet", "(I)Z"⟩, 26), (⟨"EveryonesThirdWordModel", "heardBy", "(I)I"⟩, 26), (⟨"EveryonesThirdWordModel", "isSure", "(I)Z"⟩, 26), (⟨"EveryonesThirdWordModel", "soonOf", "(I)I"⟩, 26), (⟨"EveryonesThirdWordModel", "haveIt", "()I"⟩, 26), (⟨"EveryonesThirdWordModel", "speaks", "(II)I"⟩, 26), (⟨"EveryonesThirdWordModel", "wanted", "(II)I"⟩, 26), (⟨"EveryonesThirdWordModel", "isHeard", "(II)Z"⟩, 26), (⟨"EveryonesThirdWordModel", "senses", "()I"⟩, 26), (⟨"EveryonesThirdWordModel", "change", "(II)V"⟩, 26), (⟨"EveryonesThirdWordModel", "heard", "(I)I"⟩, 26), (⟨"EveryonesThirdWordModel", "draw", "(I)I"⟩, 26), (⟨"EveryonesThirdWordModel", "hearsBy", "(II)I"⟩, 26)]
theorem lw_r4 : ∀ q ∈ lw_privs_4, lw_okq q := List.forall_mem_cons.mpr ⟨lw_p48, List.forall_mem_cons.mpr ⟨lw_p49, List.forall_mem_cons.mpr ⟨lw_p50, List.forall_mem_cons.mpr ⟨lw_p51, List.forall_mem_cons.mpr ⟨lw_p52, List.forall_mem_cons.mpr ⟨lw_p53, List.forall_mem_cons.mpr ⟨lw_p54, List.forall_mem_cons.mpr ⟨lw_p55, List.forall_mem_cons.mpr ⟨lw_p56, List.forall_mem_cons.mpr ⟨lw_p57, List.forall_mem_cons.mpr ⟨lw_p58, List.forall_mem_cons.mpr ⟨lw_p59, List.forall_mem_cons.mpr ⟨lw_p60, List.forall_mem_cons.mpr ⟨lw_p61, List.forall_mem_cons.mpr ⟨lw_p62, List.forall_mem_cons.mpr ⟨lw_p63, fun _ h => absurd h List.not_mem_nil⟩⟩⟩⟩⟩⟩⟩⟩⟩⟩⟩⟩⟩⟩⟩⟩
theorem lw_p64 : lw_okq (⟨"EveryonesThirdWordModel", "ran", "(I)V"⟩, 26) := ⟨⟨by decide +kernel, by decide +kernel⟩, List.mem_of_getElem? (i := 876) (by decide +kernel), List.mem_of_getElem? (i := 1299) (by decide +kernel), List.mem_of_getElem? (i := 1300) (by decide +kernel)⟩
theorem lw_p65 : lw_okq (⟨"EveryonesThirdWordModel", "makesBy", "(II)I"⟩, 26) := ⟨⟨by decide +kernel, by decide +kernel⟩, List.mem_of_getElem? (i := 876) (by decide +kernel), List.mem_of_getElem? (i := 1303) (by decide +kernel), List.mem_of_getElem? (i := 1304) (by decide +kernel)⟩
theorem lw_p66 : lw_okq (⟨"EveryonesThirdWordModel", "tellsBy", "(II)I"⟩, 26) := ⟨⟨by decide +kernel, by decide +kernel⟩, List.mem_of_getElem? (i := 876) (by decide +kernel), List.mem_of_getElem? (i := 1307) (by decide +kernel), List.mem_of_getElem? (i := 1308) (by decide +kernel)⟩
def lw_privs_5 : List (MethodName × Nat) := [(⟨"EveryonesThirdWordModel", "ran", "(I)V"⟩, 26), (⟨"EveryonesThirdWordModel", "makesBy", "(II)I"⟩, 26), (⟨"EveryonesThirdWordModel", "tellsBy", "(II)I"⟩, 26)]
theorem lw_r5 : ∀ q ∈ lw_privs_5, lw_okq q := List.forall_mem_cons.mpr ⟨lw_p64, List.forall_mem_cons.mpr ⟨lw_p65, List.forall_mem_cons.mpr ⟨lw_p66, fun _ h => absurd h List.not_mem_nil⟩⟩⟩
def lw_privs : List (MethodName × Nat) := lw_privs_1 ++ (lw_privs_2 ++ (lw_privs_3 ++ (lw_privs_4 ++ (lw_privs_5))))
def lw_tbl : List Cond := k2_sels lw_privs ++ tables_1
theorem lw_privs_ok : ∀ q ∈ lw_privs, lw_okq q := by
  show ∀ q ∈ lw_privs_1 ++ (lw_privs_2 ++ (lw_privs_3 ++ (lw_privs_4 ++ (lw_privs_5)))), lw_okq q
  exact List.forall_mem_append.mpr ⟨lw_r1, List.forall_mem_append.mpr ⟨lw_r2, List.forall_mem_append.mpr ⟨lw_r3, List.forall_mem_append.mpr ⟨lw_r4, lw_r5⟩⟩⟩⟩

def RX0 : String := "EveryonesThirdWord$Coaches"
def TX0 : u_T := fun k => match k with
  | 0 => ("EveryonesThirdWord$Coaches", "known", "[I", true)
  | 1 => ("EveryonesThirdWord$Coaches", "ahead", "[I", true)
  | 2 => ("EveryonesThirdWord$Coaches", "meets", "[I", true)
  | _ => ("EveryonesThirdWord$Coaches", "count", "I", false)
def tyX0 : Nat → FieldType := fun k => match k with
  | 0 => .array .int
  | 1 => .array .int
  | 2 => .array .int
  | _ => .int
theorem nmX0 : ∀ a, a < 4 → ∀ b, b < 4 → a ≠ b → (TX0 a).2.1 ≠ (TX0 b).2.1 := by decide +kernel
theorem tyX0_ok : ∀ k, k < 4 → parseFieldDescriptor (TX0 k).2.2.1 = some (tyX0 k) := by decide +kernel
def RX1 : String := "EveryonesThirdWord$Council"
def TX1 : u_T := fun k => match k with
  | 0 => ("EveryonesThirdWord$Council", "told", "[I", true)
  | _ => ("EveryonesThirdWord$Council", "parts", "[I", true)
def tyX1 : Nat → FieldType := fun k => match k with
  | 0 => .array .int
  | _ => .array .int
theorem nmX1 : ∀ a, a < 2 → ∀ b, b < 2 → a ≠ b → (TX1 a).2.1 ≠ (TX1 b).2.1 := by decide +kernel
theorem tyX1_ok : ∀ k, k < 2 → parseFieldDescriptor (TX1 k).2.2.1 = some (tyX1 k) := by decide +kernel
def RX2 : String := "EveryonesThirdWord$Court"
def TX2 : u_T := fun k => match k with
  | 0 => ("EveryonesThirdWord$Court", "men", "[LEveryonesThirdWord$Man;", true)
  | 1 => ("EveryonesThirdWord$Court", "count", "I", false)
  | 2 => ("EveryonesThirdWord$Court", "saying", "[I", true)
  | 3 => ("EveryonesThirdWord$Court", "words", "I", false)
  | _ => ("EveryonesThirdWord$Court", "seed", "I", false)
def tyX2 : Nat → FieldType := fun k => match k with
  | 0 => .array (.object "EveryonesThirdWord$Man")
  | 1 => .int
  | 2 => .array .int
  | 3 => .int
  | _ => .int
theorem nmX2 : ∀ a, a < 5 → ∀ b, b < 5 → a ≠ b → (TX2 a).2.1 ≠ (TX2 b).2.1 := by decide +kernel
theorem tyX2_ok : ∀ k, k < 5 → parseFieldDescriptor (TX2 k).2.2.1 = some (tyX2 k) := by decide +kernel
def RX3 : String := "EveryonesThirdWord$Man"
def TX3 : u_T := fun k => match k with
  | 0 => ("EveryonesThirdWord$Man", "kind", "I", false)
  | 1 => ("EveryonesThirdWord$Man", "a", "I", false)
  | 2 => ("EveryonesThirdWord$Man", "from", "I", false)
  | 3 => ("EveryonesThirdWord$Man", "belief", "I", false)
  | 4 => ("EveryonesThirdWord$Man", "hits", "I", false)
  | _ => ("EveryonesThirdWord$Man", "meets", "I", false)
def tyX3 : Nat → FieldType := fun k => match k with
  | 0 => .int
  | 1 => .int
  | 2 => .int
  | 3 => .int
  | 4 => .int
  | _ => .int
theorem nmX3 : ∀ a, a < 6 → ∀ b, b < 6 → a ≠ b → (TX3 a).2.1 ≠ (TX3 b).2.1 := by decide +kernel
theorem tyX3_ok : ∀ k, k < 6 → parseFieldDescriptor (TX3 k).2.2.1 = some (tyX3 k) := by decide +kernel
def RX4 : String := "EveryonesThirdWord$Moves"
def TX4 : u_T := fun k => match k with
  | 0 => ("EveryonesThirdWord$Moves", "trace", "[I", true)
  | 1 => ("EveryonesThirdWord$Moves", "ran", "I", false)
  | 2 => ("EveryonesThirdWord$Moves", "number", "I", false)
  | 3 => ("EveryonesThirdWord$Moves", "kind", "I", false)
  | _ => ("EveryonesThirdWord$Moves", "a", "I", false)
def tyX4 : Nat → FieldType := fun k => match k with
  | 0 => .array .int
  | 1 => .int
  | 2 => .int
  | 3 => .int
  | _ => .int
theorem nmX4 : ∀ a, a < 5 → ∀ b, b < 5 → a ≠ b → (TX4 a).2.1 ≠ (TX4 b).2.1 := by decide +kernel
theorem tyX4_ok : ∀ k, k < 5 → parseFieldDescriptor (TX4 k).2.2.1 = some (tyX4 k) := by decide +kernel
def RX5 : String := "EveryonesThirdWord$Reader"
def TX5 : u_T := fun k => match k with
  | 0 => ("EveryonesThirdWord$Reader", "trial", "LEveryonesThirdWord$Court;", true)
  | 1 => ("EveryonesThirdWord$Reader", "at", "I", false)
  | 2 => ("EveryonesThirdWord$Reader", "numberAt", "I", false)
  | _ => ("EveryonesThirdWord$Reader", "fault", "I", false)
def tyX5 : Nat → FieldType := fun k => match k with
  | 0 => .object "EveryonesThirdWord$Court"
  | 1 => .int
  | 2 => .int
  | _ => .int
theorem nmX5 : ∀ a, a < 4 → ∀ b, b < 4 → a ≠ b → (TX5 a).2.1 ≠ (TX5 b).2.1 := by decide +kernel
theorem tyX5_ok : ∀ k, k < 4 → parseFieldDescriptor (TX5 k).2.2.1 = some (tyX5 k) := by decide +kernel
def RX6 : String := "EveryonesThirdWord$Shelf"
def TX6 : u_T := fun k => match k with
  | 0 => ("EveryonesThirdWord$Shelf", "held", "I", false)
  | 1 => ("EveryonesThirdWord$Shelf", "length", "I", false)
  | _ => ("EveryonesThirdWord$Shelf", "elements", "[J", true)
def tyX6 : Nat → FieldType := fun k => match k with
  | 0 => .int
  | 1 => .int
  | _ => .array .long
theorem nmX6 : ∀ a, a < 3 → ∀ b, b < 3 → a ≠ b → (TX6 a).2.1 ≠ (TX6 b).2.1 := by decide +kernel
theorem tyX6_ok : ∀ k, k < 3 → parseFieldDescriptor (TX6 k).2.2.1 = some (tyX6 k) := by decide +kernel
def RX7 : String := "EveryonesThirdWord"
def TX7 : u_T := fun k => match k with
  | 0 => ("EveryonesThirdWord", "court", "LEveryonesThirdWord$Court;", true)
  | 1 => ("EveryonesThirdWord", "image", "LEveryonesThirdWord$Court;", true)
  | 2 => ("EveryonesThirdWord", "shelves", "[LEveryonesThirdWord$Shelf;", true)
  | 3 => ("EveryonesThirdWord", "refusals", "[I", true)
  | 4 => ("EveryonesThirdWord", "reader", "LEveryonesThirdWord$Reader;", true)
  | 5 => ("EveryonesThirdWord", "coaches", "LEveryonesThirdWord$Coaches;", true)
  | 6 => ("EveryonesThirdWord", "council", "LEveryonesThirdWord$Council;", true)
  | 7 => ("EveryonesThirdWord", "moves", "LEveryonesThirdWord$Moves;", true)
  | 8 => ("EveryonesThirdWord", "imaged", "Z", false)
  | _ => ("EveryonesThirdWord", "latestFault", "I", false)
def tyX7 : Nat → FieldType := fun k => match k with
  | 0 => .object "EveryonesThirdWord$Court"
  | 1 => .object "EveryonesThirdWord$Court"
  | 2 => .array (.object "EveryonesThirdWord$Shelf")
  | 3 => .array .int
  | 4 => .object "EveryonesThirdWord$Reader"
  | 5 => .object "EveryonesThirdWord$Coaches"
  | 6 => .object "EveryonesThirdWord$Council"
  | 7 => .object "EveryonesThirdWord$Moves"
  | 8 => .boolean
  | _ => .int
theorem nmX7 : ∀ a, a < 10 → ∀ b, b < 10 → a ≠ b → (TX7 a).2.1 ≠ (TX7 b).2.1 := by decide +kernel
theorem tyX7_ok : ∀ k, k < 10 → parseFieldDescriptor (TX7 k).2.2.1 = some (tyX7 k) := by decide +kernel
def RX8 : String := "EveryonesThirdWordModel"
def TX8 : u_T := fun k => match k with
  | 0 => ("EveryonesThirdWordModel", "holding", "[I", true)
  | 1 => ("EveryonesThirdWordModel", "rowLength", "[I", true)
  | 2 => ("EveryonesThirdWordModel", "rowOf", "[J", true)
  | 3 => ("EveryonesThirdWordModel", "men", "I", false)
  | 4 => ("EveryonesThirdWordModel", "kind", "[I", true)
  | 5 => ("EveryonesThirdWordModel", "own", "[I", true)
  | 6 => ("EveryonesThirdWordModel", "from", "[I", true)
  | 7 => ("EveryonesThirdWordModel", "belief", "[I", true)
  | 8 => ("EveryonesThirdWordModel", "hits", "[I", true)
  | 9 => ("EveryonesThirdWordModel", "meets", "[I", true)
  | 10 => ("EveryonesThirdWordModel", "length", "I", false)
  | 11 => ("EveryonesThirdWordModel", "saying", "[I", true)
  | 12 => ("EveryonesThirdWordModel", "seed", "I", false)
  | 13 => ("EveryonesThirdWordModel", "fault", "I", false)
  | 14 => ("EveryonesThirdWordModel", "refusals", "[I", true)
  | 15 => ("EveryonesThirdWordModel", "traced", "I", false)
  | 16 => ("EveryonesThirdWordModel", "traces", "[I", true)
  | 17 => ("EveryonesThirdWordModel", "imaged", "Z", false)
  | 18 => ("EveryonesThirdWordModel", "old", "[I", true)
  | 19 => ("EveryonesThirdWordModel", "ahead", "[I", true)
  | 20 => ("EveryonesThirdWordModel", "known", "[I", true)
  | 21 => ("EveryonesThirdWordModel", "next", "[I", true)
  | 22 => ("EveryonesThirdWordModel", "spoken", "[I", true)
  | 23 => ("EveryonesThirdWordModel", "reading", "I", false)
  | 24 => ("EveryonesThirdWordModel", "at", "I", false)
  | _ => ("EveryonesThirdWordModel", "numbers", "[I", true)
def tyX8 : Nat → FieldType := fun k => match k with
  | 0 => .array .int
  | 1 => .array .int
  | 2 => .array .long
  | 3 => .int
  | 4 => .array .int
  | 5 => .array .int
  | 6 => .array .int
  | 7 => .array .int
  | 8 => .array .int
  | 9 => .array .int
  | 10 => .int
  | 11 => .array .int
  | 12 => .int
  | 13 => .int
  | 14 => .array .int
  | 15 => .int
  | 16 => .array .int
  | 17 => .boolean
  | 18 => .array .int
  | 19 => .array .int
  | 20 => .array .int
  | 21 => .array .int
  | 22 => .array .int
  | 23 => .int
  | 24 => .int
  | _ => .array .int
theorem nmX8 : ∀ a, a < 26 → ∀ b, b < 26 → a ≠ b → (TX8 a).2.1 ≠ (TX8 b).2.1 := by decide +kernel
theorem tyX8_ok : ∀ k, k < 26 → parseFieldDescriptor (TX8 k).2.2.1 = some (tyX8 k) := by decide +kernel
-- ===== end of part A and of the classes; the table of methods, links by place =====
def RNL : List String := ["EveryonesThirdWord$Coaches", "EveryonesThirdWord$Council", "EveryonesThirdWord$Court", "EveryonesThirdWord$Man", "EveryonesThirdWord$Moves", "EveryonesThirdWord$Reader", "EveryonesThirdWord$Shelf", "EveryonesThirdWord", "EveryonesThirdWordModel", "EveryonesThirdWordLaw", "java/lang/Integer", "java/lang/Long", "java/lang/Math", "java/lang/String", "java/lang/Object", "java/lang/StringLatin1", "jdk/internal/util/Preconditions", "java/lang/StringUTF16"]
def RN (k : Nat) : String := RNL.getD k ""
abbrev cls9 : List vw_C := [(RX0, TX0, 4), (RX1, TX1, 2), (RX2, TX2, 5), (RX3, TX3, 6), (RX4, TX4, 5), (RX5, TX5, 4), (RX6, TX6, 3), (RX7, TX7, 10), (RX8, TX8, 26)]
def cT (c : Nat) : u_T := match c with
  | 0 => TX0
  | 1 => TX1
  | 2 => TX2
  | 3 => TX3
  | 4 => TX4
  | 5 => TX5
  | 6 => TX6
  | 7 => TX7
  | _ => TX8
def cN (c : Nat) : Nat := match c with
  | 0 => 4
  | 1 => 2
  | 2 => 5
  | 3 => 6
  | 4 => 5
  | 5 => 4
  | 6 => 3
  | 7 => 10
  | _ => 26
abbrev MT : Type := Nat × MethodName × ByteArray × Nat × Option FieldType
def tc (k : Nat) : List Cond := match k with
  | 0 => k2_sels lw_privs
  | 1 => tables_1_1
  | 2 => tables_1_2
  | 3 => tables_1_3
  | 4 => tables_1_4
  | 5 => tables_1_5
  | _ => tables_1_6
theorem tc_in {w : Cond} : ∀ (k : Nat), w ∈ tc k → w ∈ lw_tbl
  | 0, h => List.mem_append_left _ h
  | 1, h => List.mem_append_right _ (List.mem_append_left _ h)
  | 2, h => List.mem_append_right _ (List.mem_append_right _ (List.mem_append_left _ h))
  | 3, h => List.mem_append_right _ (List.mem_append_right _ (List.mem_append_right _ (List.mem_append_left _ h)))
  | 4, h => List.mem_append_right _ (List.mem_append_right _ (List.mem_append_right _ (List.mem_append_right _ (List.mem_append_left _ h))))
  | 5, h => List.mem_append_right _ (List.mem_append_right _ (List.mem_append_right _ (List.mem_append_right _ (List.mem_append_right _ (List.mem_append_left _ h)))))
  | _ + 6, h => List.mem_append_right _ (List.mem_append_right _ (List.mem_append_right _ (List.mem_append_right _ (List.mem_append_right _ (List.mem_append_right _ h)))))
def GW : List Cond := lw_tbl.filter goodWord
theorem wi {w : Cond} (k i : Nat) (h : (tc k)[i]? = some w) (g : goodWord w = true) : w ∈ GW := List.mem_filter.mpr ⟨tc_in k (List.mem_of_getElem? h), g⟩
theorem GW_GoodIn {L : List Cond} (h : ∀ w ∈ L, w ∈ GW) : GoodIn GW L := fun w hw => ⟨h w hw, good_of_word (List.mem_filter.mp (h w hw)).2⟩
def nestWord (w : Cond) : Bool := match w with
  | .methodLinkNest _ _ _ _ => true
  | .fieldLinkNest _ _ _ _ _ _ => true
  | _ => false
theorem wn {w : Cond} (k i : Nat) (h : (tc k)[i]? = some w) (g : nestWord w = true) : w ∈ lw_tbl.filter nestWord := List.mem_filter.mpr ⟨tc_in k (List.mem_of_getElem? h), g⟩
def UW (M : MT) : List Cond := Cond.code M.2.1 M.2.2.1 M.2.2.2.1 M.2.2.2.2 :: GW
/-- what the tables say of a method -/
def MOK (M : MT) : Prop := Cond.code M.2.1 M.2.2.1 M.2.2.2.1 M.2.2.2.2 ∈ GW ∧ Cond.initialized M.2.1.cls ∈ GW ∧ plainName M.2.1.cls = true ∧ M.2.1.cls = RN M.1 ∧ M.2.1.cls ≠ "java/lang/invoke/MethodHandle" ∧ M.2.1.cls ≠ "java/lang/invoke/VarHandle" ∧ M.2.2.2.1 ≤ 30
/-- a virtual call: the link's place, the callee -/
def IVV (o i : Nat) (M : MT) : Prop := Cond.methodLink (RN o) i M.2.1 ∈ GW ∧ Cond.instanceMethod M.2.1 ∈ GW ∧ Cond.selects M.2.1.cls M.2.1 M.2.1 ∈ GW
def IVS (o i : Nat) (M : MT) : Prop := Cond.methodLink (RN o) i M.2.1 ∈ GW ∧ Cond.static M.2.1 ∈ GW
def IVN (o i : Nat) (M : MT) : Prop := Cond.methodLinkNest (RN o) i M.2.1 "EveryonesThirdWord" ∈ lw_tbl.filter nestWord ∧ Cond.static M.2.1 ∈ GW
abbrev mX_init : MT := (7, ⟨"EveryonesThirdWord", "<init>", "()V"⟩, prog_1_method_1_code, 2, none)
set_option maxRecDepth 100000 in
theorem kX_init : MOK mX_init := ⟨wi 1 22 rfl rfl, wi 1 1 rfl rfl, by decide +kernel, rfl, by decide +kernel, by decide +kernel, Nat.le_of_ble_eq_true rfl⟩
abbrev mCt_init : MT := (2, ⟨"EveryonesThirdWord$Court", "<init>", "()V"⟩, prog_4_method_1_code, 2, none)
set_option maxRecDepth 100000 in
theorem kCt_init : MOK mCt_init := ⟨wi 1 30 rfl rfl, wi 1 2 rfl rfl, by decide +kernel, rfl, by decide +kernel, by decide +kernel, Nat.le_of_ble_eq_true rfl⟩
abbrev mMn_init : MT := (3, ⟨"EveryonesThirdWord$Man", "<init>", "()V"⟩, prog_5_method_1_code, 1, none)
set_option maxRecDepth 100000 in
theorem kMn_init : MOK mMn_init := ⟨wi 1 37 rfl rfl, wi 1 3 rfl rfl, by decide +kernel, rfl, by decide +kernel, by decide +kernel, Nat.le_of_ble_eq_true rfl⟩
abbrev mSh_init : MT := (6, ⟨"EveryonesThirdWord$Shelf", "<init>", "()V"⟩, prog_8_method_1_code, 1, none)
set_option maxRecDepth 100000 in
theorem kSh_init : MOK mSh_init := ⟨wi 1 108 rfl rfl, wi 1 4 rfl rfl, by decide +kernel, rfl, by decide +kernel, by decide +kernel, Nat.le_of_ble_eq_true rfl⟩
abbrev mRd_init : MT := (5, ⟨"EveryonesThirdWord$Reader", "<init>", "()V"⟩, prog_7_method_1_code, 1, none)
set_option maxRecDepth 100000 in
theorem kRd_init : MOK mRd_init := ⟨wi 1 130 rfl rfl, wi 1 5 rfl rfl, by decide +kernel, rfl, by decide +kernel, by decide +kernel, Nat.le_of_ble_eq_true rfl⟩
abbrev mCo_init : MT := (0, ⟨"EveryonesThirdWord$Coaches", "<init>", "()V"⟩, prog_2_method_1_code, 1, none)
set_option maxRecDepth 100000 in
theorem kCo_init : MOK mCo_init := ⟨wi 1 152 rfl rfl, wi 1 6 rfl rfl, by decide +kernel, rfl, by decide +kernel, by decide +kernel, Nat.le_of_ble_eq_true rfl⟩
abbrev mCl_init : MT := (1, ⟨"EveryonesThirdWord$Council", "<init>", "()V"⟩, prog_3_method_1_code, 1, none)
set_option maxRecDepth 100000 in
theorem kCl_init : MOK mCl_init := ⟨wi 1 172 rfl rfl, wi 1 7 rfl rfl, by decide +kernel, rfl, by decide +kernel, by decide +kernel, Nat.le_of_ble_eq_true rfl⟩
abbrev mMv_init : MT := (4, ⟨"EveryonesThirdWord$Moves", "<init>", "()V"⟩, prog_6_method_1_code, 1, none)
set_option maxRecDepth 100000 in
theorem kMv_init : MOK mMv_init := ⟨wi 1 185 rfl rfl, wi 1 8 rfl rfl, by decide +kernel, rfl, by decide +kernel, by decide +kernel, Nat.le_of_ble_eq_true rfl⟩
abbrev mX_row : MT := (7, ⟨"EveryonesThirdWord", "row", "(III)I"⟩, prog_1_method_2_code, 4, (some FieldType.int))
set_option maxRecDepth 100000 in
theorem kX_row : MOK mX_row := ⟨wi 1 238 rfl rfl, wi 1 1 rfl rfl, by decide +kernel, rfl, by decide +kernel, by decide +kernel, Nat.le_of_ble_eq_true rfl⟩
abbrev mX_isShelf : MT := (7, ⟨"EveryonesThirdWord", "isShelf", "(I)Z"⟩, prog_1_method_45_code, 1, (some FieldType.boolean))
set_option maxRecDepth 100000 in
theorem kX_isShelf : MOK mX_isShelf := ⟨wi 2 1 rfl rfl, wi 1 1 rfl rfl, by decide +kernel, rfl, by decide +kernel, by decide +kernel, Nat.le_of_ble_eq_true rfl⟩
abbrev mX_refuse : MT := (7, ⟨"EveryonesThirdWord", "refuse", "(I)I"⟩, prog_1_method_43_code, 2, (some FieldType.int))
set_option maxRecDepth 100000 in
theorem kX_refuse : MOK mX_refuse := ⟨wi 2 5 rfl rfl, wi 1 1 rfl rfl, by decide +kernel, rfl, by decide +kernel, by decide +kernel, Nat.le_of_ble_eq_true rfl⟩
abbrev mSh_takeRow : MT := (6, ⟨"EveryonesThirdWord$Shelf", "takeRow", "(II)V"⟩, prog_8_method_5_code, 4, none)
set_option maxRecDepth 100000 in
theorem kSh_takeRow : MOK mSh_takeRow := ⟨wi 2 9 rfl rfl, wi 1 4 rfl rfl, by decide +kernel, rfl, by decide +kernel, by decide +kernel, Nat.le_of_ble_eq_true rfl⟩
abbrev mX_set : MT := (7, ⟨"EveryonesThirdWord", "set", "(IIJ)I"⟩, prog_1_method_3_code, 6, (some FieldType.int))
set_option maxRecDepth 100000 in
theorem kX_set : MOK mX_set := ⟨wi 2 13 rfl rfl, wi 1 1 rfl rfl, by decide +kernel, rfl, by decide +kernel, by decide +kernel, Nat.le_of_ble_eq_true rfl⟩
abbrev mX_rowRefusal : MT := (7, ⟨"EveryonesThirdWord", "rowRefusal", "(I)I"⟩, prog_1_method_49_code, 2, (some FieldType.int))
set_option maxRecDepth 100000 in
theorem kX_rowRefusal : MOK mX_rowRefusal := ⟨wi 2 17 rfl rfl, wi 1 1 rfl rfl, by decide +kernel, rfl, by decide +kernel, by decide +kernel, Nat.le_of_ble_eq_true rfl⟩
abbrev mSh_isMan : MT := (6, ⟨"EveryonesThirdWord$Shelf", "isMan", "()Z"⟩, prog_8_method_3_code, 1, (some FieldType.boolean))
set_option maxRecDepth 100000 in
theorem kSh_isMan : MOK mSh_isMan := ⟨wi 2 21 rfl rfl, wi 1 4 rfl rfl, by decide +kernel, rfl, by decide +kernel, by decide +kernel, Nat.le_of_ble_eq_true rfl⟩
abbrev mSh_isRow : MT := (6, ⟨"EveryonesThirdWord$Shelf", "isRow", "()Z"⟩, prog_8_method_2_code, 1, (some FieldType.boolean))
set_option maxRecDepth 100000 in
theorem kSh_isRow : MOK mSh_isRow := ⟨wi 2 25 rfl rfl, wi 1 4 rfl rfl, by decide +kernel, rfl, by decide +kernel, by decide +kernel, Nat.le_of_ble_eq_true rfl⟩
abbrev mSh_has : MT := (6, ⟨"EveryonesThirdWord$Shelf", "has", "(I)Z"⟩, prog_8_method_4_code, 2, (some FieldType.boolean))
set_option maxRecDepth 100000 in
theorem kSh_has : MOK mSh_has := ⟨wi 2 29 rfl rfl, wi 1 4 rfl rfl, by decide +kernel, rfl, by decide +kernel, by decide +kernel, Nat.le_of_ble_eq_true rfl⟩
abbrev mSh_put : MT := (6, ⟨"EveryonesThirdWord$Shelf", "put", "(IJ)V"⟩, prog_8_method_8_code, 4, none)
set_option maxRecDepth 100000 in
theorem kSh_put : MOK mSh_put := ⟨wi 2 33 rfl rfl, wi 1 4 rfl rfl, by decide +kernel, rfl, by decide +kernel, by decide +kernel, Nat.le_of_ble_eq_true rfl⟩
abbrev mX_copy : MT := (7, ⟨"EveryonesThirdWord", "copy", "(IIIII)I"⟩, prog_1_method_4_code, 8, (some FieldType.int))
set_option maxRecDepth 100000 in
theorem kX_copy : MOK mX_copy := ⟨wi 2 38 rfl rfl, wi 1 1 rfl rfl, by decide +kernel, rfl, by decide +kernel, by decide +kernel, Nat.le_of_ble_eq_true rfl⟩
abbrev mX_element : MT := (7, ⟨"EveryonesThirdWord", "element", "(II)J"⟩, prog_1_method_5_code, 3, (some FieldType.long))
set_option maxRecDepth 100000 in
theorem kX_element : MOK mX_element := ⟨wi 2 45 rfl rfl, wi 1 1 rfl rfl, by decide +kernel, rfl, by decide +kernel, by decide +kernel, Nat.le_of_ble_eq_true rfl⟩
abbrev mX_show : MT := (7, ⟨"EveryonesThirdWord", "show", "(II)I"⟩, prog_1_method_6_code, 3, (some FieldType.int))
set_option maxRecDepth 100000 in
theorem kX_show : MOK mX_show := ⟨wi 2 49 rfl rfl, wi 1 1 rfl rfl, by decide +kernel, rfl, by decide +kernel, by decide +kernel, Nat.le_of_ble_eq_true rfl⟩
abbrev mSh_takeNothing : MT := (6, ⟨"EveryonesThirdWord$Shelf", "takeNothing", "()V"⟩, prog_8_method_7_code, 1, none)
set_option maxRecDepth 100000 in
theorem kSh_takeNothing : MOK mSh_takeNothing := ⟨wi 2 53 rfl rfl, wi 1 4 rfl rfl, by decide +kernel, rfl, by decide +kernel, by decide +kernel, Nat.le_of_ble_eq_true rfl⟩
abbrev mCt_isMan : MT := (2, ⟨"EveryonesThirdWord$Court", "isMan", "(I)Z"⟩, prog_4_method_3_code, 2, (some FieldType.boolean))
set_option maxRecDepth 100000 in
theorem kCt_isMan : MOK mCt_isMan := ⟨wi 2 57 rfl rfl, wi 1 2 rfl rfl, by decide +kernel, rfl, by decide +kernel, by decide +kernel, Nat.le_of_ble_eq_true rfl⟩
abbrev mSh_takeMan : MT := (6, ⟨"EveryonesThirdWord$Shelf", "takeMan", "(I)V"⟩, prog_8_method_6_code, 2, none)
set_option maxRecDepth 100000 in
theorem kSh_takeMan : MOK mSh_takeMan := ⟨wi 2 61 rfl rfl, wi 1 4 rfl rfl, by decide +kernel, rfl, by decide +kernel, by decide +kernel, Nat.le_of_ble_eq_true rfl⟩
abbrev mX_holds : MT := (7, ⟨"EveryonesThirdWord", "holds", "(I)I"⟩, prog_1_method_7_code, 2, (some FieldType.int))
set_option maxRecDepth 100000 in
theorem kX_holds : MOK mX_holds := ⟨wi 2 65 rfl rfl, wi 1 1 rfl rfl, by decide +kernel, rfl, by decide +kernel, by decide +kernel, Nat.le_of_ble_eq_true rfl⟩
abbrev mX_says : MT := (7, ⟨"EveryonesThirdWord", "says", "(II)I"⟩, prog_1_method_8_code, 5, (some FieldType.int))
set_option maxRecDepth 100000 in
theorem kX_says : MOK mX_says := ⟨wi 2 69 rfl rfl, wi 1 1 rfl rfl, by decide +kernel, rfl, by decide +kernel, by decide +kernel, Nat.le_of_ble_eq_true rfl⟩
abbrev mX_isKind : MT := (7, ⟨"EveryonesThirdWord", "isKind", "(I)Z"⟩, prog_1_method_46_code, 1, (some FieldType.boolean))
set_option maxRecDepth 100000 in
theorem kX_isKind : MOK mX_isKind := ⟨wi 2 72 rfl rfl, wi 1 1 rfl rfl, by decide +kernel, rfl, by decide +kernel, by decide +kernel, Nat.le_of_ble_eq_true rfl⟩
abbrev mX_isUnder : MT := (7, ⟨"EveryonesThirdWord", "isUnder", "(II)Z"⟩, prog_1_method_48_code, 4, (some FieldType.boolean))
set_option maxRecDepth 100000 in
theorem kX_isUnder : MOK mX_isUnder := ⟨wi 2 75 rfl rfl, wi 1 1 rfl rfl, by decide +kernel, rfl, by decide +kernel, by decide +kernel, Nat.le_of_ble_eq_true rfl⟩
abbrev mMn_saysAs : MT := (3, ⟨"EveryonesThirdWord$Man", "saysAs", "(II)I"⟩, prog_5_method_5_code, 5, (some FieldType.int))
set_option maxRecDepth 100000 in
theorem kMn_saysAs : MOK mMn_saysAs := ⟨wi 2 81 rfl rfl, wi 1 3 rfl rfl, by decide +kernel, rfl, by decide +kernel, by decide +kernel, Nat.le_of_ble_eq_true rfl⟩
abbrev mMn_placesOf : MT := (3, ⟨"EveryonesThirdWord$Man", "placesOf", "(I)I"⟩, prog_5_method_4_code, 2, (some FieldType.int))
set_option maxRecDepth 100000 in
theorem kMn_placesOf : MOK mMn_placesOf := ⟨wi 2 85 rfl rfl, wi 1 3 rfl rfl, by decide +kernel, rfl, by decide +kernel, by decide +kernel, Nat.le_of_ble_eq_true rfl⟩
abbrev mX_placesBy : MT := (7, ⟨"EveryonesThirdWord", "placesBy", "(IIII)I"⟩, prog_1_method_59_code, 5, (some FieldType.int))
set_option maxRecDepth 100000 in
theorem kX_placesBy : MOK mX_placesBy := ⟨wi 2 88 rfl rfl, wi 1 1 rfl rfl, by decide +kernel, rfl, by decide +kernel, by decide +kernel, Nat.le_of_ble_eq_true rfl⟩
abbrev mX_thirds : MT := (7, ⟨"EveryonesThirdWord", "thirds", "(III)I"⟩, prog_1_method_58_code, 5, (some FieldType.int))
set_option maxRecDepth 100000 in
theorem kX_thirds : MOK mX_thirds := ⟨wi 2 91 rfl rfl, wi 1 1 rfl rfl, by decide +kernel, rfl, by decide +kernel, by decide +kernel, Nat.le_of_ble_eq_true rfl⟩
abbrev mX_span : MT := (7, ⟨"EveryonesThirdWord", "span", "(II)I"⟩, prog_1_method_57_code, 4, (some FieldType.int))
set_option maxRecDepth 100000 in
theorem kX_span : MOK mX_span := ⟨wi 2 94 rfl rfl, wi 1 1 rfl rfl, by decide +kernel, rfl, by decide +kernel, by decide +kernel, Nat.le_of_ble_eq_true rfl⟩
abbrev mX_missing : MT := (7, ⟨"EveryonesThirdWord", "missing", "(II)I"⟩, prog_1_method_60_code, 5, (some FieldType.int))
set_option maxRecDepth 100000 in
theorem kX_missing : MOK mX_missing := ⟨wi 2 100 rfl rfl, wi 1 1 rfl rfl, by decide +kernel, rfl, by decide +kernel, by decide +kernel, Nat.le_of_ble_eq_true rfl⟩
abbrev mX_everyOther : MT := (7, ⟨"EveryonesThirdWord", "everyOther", "(I)I"⟩, prog_1_method_61_code, 4, (some FieldType.int))
set_option maxRecDepth 100000 in
theorem kX_everyOther : MOK mX_everyOther := ⟨wi 2 103 rfl rfl, wi 1 1 rfl rfl, by decide +kernel, rfl, by decide +kernel, by decide +kernel, Nat.le_of_ble_eq_true rfl⟩
abbrev mJI_bitCount : MT := (10, ⟨"java/lang/Integer", "bitCount", "(I)I"⟩, prog_11_method_49_code, 1, (some FieldType.int))
set_option maxRecDepth 100000 in
theorem kJI_bitCount : MOK mJI_bitCount := ⟨wi 2 110 rfl rfl, wi 1 12 rfl rfl, by decide +kernel, rfl, by decide +kernel, by decide +kernel, Nat.le_of_ble_eq_true rfl⟩
abbrev mX_man : MT := (7, ⟨"EveryonesThirdWord", "man", "(III)I"⟩, prog_1_method_9_code, 4, (some FieldType.int))
set_option maxRecDepth 100000 in
theorem kX_man : MOK mX_man := ⟨wi 2 117 rfl rfl, wi 1 1 rfl rfl, by decide +kernel, rfl, by decide +kernel, by decide +kernel, Nat.le_of_ble_eq_true rfl⟩
abbrev mCt_addMan : MT := (2, ⟨"EveryonesThirdWord$Court", "addMan", "(III)V"⟩, prog_4_method_6_code, 4, none)
set_option maxRecDepth 100000 in
theorem kCt_addMan : MOK mCt_addMan := ⟨wi 2 121 rfl rfl, wi 1 2 rfl rfl, by decide +kernel, rfl, by decide +kernel, by decide +kernel, Nat.le_of_ble_eq_true rfl⟩
abbrev mMn_begin : MT := (3, ⟨"EveryonesThirdWord$Man", "begin", "(III)V"⟩, prog_5_method_2_code, 4, none)
set_option maxRecDepth 100000 in
theorem kMn_begin : MOK mMn_begin := ⟨wi 2 125 rfl rfl, wi 1 3 rfl rfl, by decide +kernel, rfl, by decide +kernel, by decide +kernel, Nat.le_of_ble_eq_true rfl⟩
abbrev mX_manOf : MT := (7, ⟨"EveryonesThirdWord", "manOf", "(II)I"⟩, prog_1_method_10_code, 4, (some FieldType.int))
set_option maxRecDepth 100000 in
theorem kX_manOf : MOK mX_manOf := ⟨wi 2 129 rfl rfl, wi 1 1 rfl rfl, by decide +kernel, rfl, by decide +kernel, by decide +kernel, Nat.le_of_ble_eq_true rfl⟩
abbrev mCt_his : MT := (2, ⟨"EveryonesThirdWord$Court", "his", "(I)I"⟩, prog_4_method_11_code, 2, (some FieldType.int))
set_option maxRecDepth 100000 in
theorem kCt_his : MOK mCt_his := ⟨wi 2 133 rfl rfl, wi 1 2 rfl rfl, by decide +kernel, rfl, by decide +kernel, by decide +kernel, Nat.le_of_ble_eq_true rfl⟩
abbrev mX_meet : MT := (7, ⟨"EveryonesThirdWord", "meet", "(IIZ)I"⟩, prog_1_method_11_code, 5, (some FieldType.int))
set_option maxRecDepth 100000 in
theorem kX_meet : MOK mX_meet := ⟨wi 2 140 rfl rfl, wi 1 1 rfl rfl, by decide +kernel, rfl, by decide +kernel, by decide +kernel, Nat.le_of_ble_eq_true rfl⟩
abbrev mCt_doMeet : MT := (2, ⟨"EveryonesThirdWord$Court", "doMeet", "(II)Z"⟩, prog_4_method_7_code, 3, (some FieldType.boolean))
set_option maxRecDepth 100000 in
theorem kCt_doMeet : MOK mCt_doMeet := ⟨wi 2 144 rfl rfl, wi 1 2 rfl rfl, by decide +kernel, rfl, by decide +kernel, by decide +kernel, Nat.le_of_ble_eq_true rfl⟩
abbrev mCt_link : MT := (2, ⟨"EveryonesThirdWord$Court", "link", "(IIZ)V"⟩, prog_4_method_8_code, 4, none)
set_option maxRecDepth 100000 in
theorem kCt_link : MOK mCt_link := ⟨wi 2 148 rfl rfl, wi 1 2 rfl rfl, by decide +kernel, rfl, by decide +kernel, by decide +kernel, Nat.le_of_ble_eq_true rfl⟩
abbrev mX_say : MT := (7, ⟨"EveryonesThirdWord", "say", "(II)I"⟩, prog_1_method_12_code, 6, (some FieldType.int))
set_option maxRecDepth 100000 in
theorem kX_say : MOK mX_say := ⟨wi 2 152 rfl rfl, wi 1 1 rfl rfl, by decide +kernel, rfl, by decide +kernel, by decide +kernel, Nat.le_of_ble_eq_true rfl⟩
abbrev mX_tellRefusal : MT := (7, ⟨"EveryonesThirdWord", "tellRefusal", "(II)I"⟩, prog_1_method_50_code, 4, (some FieldType.int))
set_option maxRecDepth 100000 in
theorem kX_tellRefusal : MOK mX_tellRefusal := ⟨wi 2 156 rfl rfl, wi 1 1 rfl rfl, by decide +kernel, rfl, by decide +kernel, by decide +kernel, Nat.le_of_ble_eq_true rfl⟩
abbrev mSh_firstWrong : MT := (6, ⟨"EveryonesThirdWord$Shelf", "firstWrong", "(I)I"⟩, prog_8_method_10_code, 4, (some FieldType.int))
set_option maxRecDepth 100000 in
theorem kSh_firstWrong : MOK mSh_firstWrong := ⟨wi 2 160 rfl rfl, wi 1 4 rfl rfl, by decide +kernel, rfl, by decide +kernel, by decide +kernel, Nat.le_of_ble_eq_true rfl⟩
abbrev mSh_asInt : MT := (6, ⟨"EveryonesThirdWord$Shelf", "asInt", "(I)I"⟩, prog_8_method_9_code, 2, (some FieldType.int))
set_option maxRecDepth 100000 in
theorem kSh_asInt : MOK mSh_asInt := ⟨wi 2 164 rfl rfl, wi 1 4 rfl rfl, by decide +kernel, rfl, by decide +kernel, by decide +kernel, Nat.le_of_ble_eq_true rfl⟩
abbrev mCt_hushWords : MT := (2, ⟨"EveryonesThirdWord$Court", "hushWords", "()V"⟩, prog_4_method_9_code, 1, none)
set_option maxRecDepth 100000 in
theorem kCt_hushWords : MOK mCt_hushWords := ⟨wi 2 168 rfl rfl, wi 1 2 rfl rfl, by decide +kernel, rfl, by decide +kernel, by decide +kernel, Nat.le_of_ble_eq_true rfl⟩
abbrev mCt_addWord : MT := (2, ⟨"EveryonesThirdWord$Court", "addWord", "(I)V"⟩, prog_4_method_10_code, 2, none)
set_option maxRecDepth 100000 in
theorem kCt_addWord : MOK mCt_addWord := ⟨wi 2 173 rfl rfl, wi 1 2 rfl rfl, by decide +kernel, rfl, by decide +kernel, by decide +kernel, Nat.le_of_ble_eq_true rfl⟩
abbrev mX_word : MT := (7, ⟨"EveryonesThirdWord", "word", "(I)I"⟩, prog_1_method_13_code, 2, (some FieldType.int))
set_option maxRecDepth 100000 in
theorem kX_word : MOK mX_word := ⟨wi 2 177 rfl rfl, wi 1 1 rfl rfl, by decide +kernel, rfl, by decide +kernel, by decide +kernel, Nat.le_of_ble_eq_true rfl⟩
abbrev mCt_isPlace : MT := (2, ⟨"EveryonesThirdWord$Court", "isPlace", "(I)Z"⟩, prog_4_method_4_code, 2, (some FieldType.boolean))
set_option maxRecDepth 100000 in
theorem kCt_isPlace : MOK mCt_isPlace := ⟨wi 2 181 rfl rfl, wi 1 2 rfl rfl, by decide +kernel, rfl, by decide +kernel, by decide +kernel, Nat.le_of_ble_eq_true rfl⟩
abbrev mX_court : MT := (7, ⟨"EveryonesThirdWord", "court", "(I)I"⟩, prog_1_method_14_code, 4, (some FieldType.int))
set_option maxRecDepth 100000 in
theorem kX_court : MOK mX_court := ⟨wi 2 185 rfl rfl, wi 1 1 rfl rfl, by decide +kernel, rfl, by decide +kernel, by decide +kernel, Nat.le_of_ble_eq_true rfl⟩
abbrev mRd_readOver : MT := (5, ⟨"EveryonesThirdWord$Reader", "readOver", "(LEveryonesThirdWord$Court;LEveryonesThirdWord$Shelf;)I"⟩, prog_7_method_2_code, 5, (some FieldType.int))
set_option maxRecDepth 100000 in
theorem kRd_readOver : MOK mRd_readOver := ⟨wi 2 189 rfl rfl, wi 1 5 rfl rfl, by decide +kernel, rfl, by decide +kernel, by decide +kernel, Nat.le_of_ble_eq_true rfl⟩
abbrev mCt_become : MT := (2, ⟨"EveryonesThirdWord$Court", "become", "(LEveryonesThirdWord$Court;)V"⟩, prog_4_method_2_code, 3, none)
set_option maxRecDepth 100000 in
theorem kCt_become : MOK mCt_become := ⟨wi 2 193 rfl rfl, wi 1 2 rfl rfl, by decide +kernel, rfl, by decide +kernel, by decide +kernel, Nat.le_of_ble_eq_true rfl⟩
abbrev mMn_become : MT := (3, ⟨"EveryonesThirdWord$Man", "become", "(LEveryonesThirdWord$Man;)V"⟩, prog_5_method_3_code, 2, none)
set_option maxRecDepth 100000 in
theorem kMn_become : MOK mMn_become := ⟨wi 2 197 rfl rfl, wi 1 3 rfl rfl, by decide +kernel, rfl, by decide +kernel, by decide +kernel, Nat.le_of_ble_eq_true rfl⟩
abbrev mRd_readItem : MT := (5, ⟨"EveryonesThirdWord$Reader", "readItem", "(LEveryonesThirdWord$Shelf;)V"⟩, prog_7_method_3_code, 4, none)
set_option maxRecDepth 100000 in
theorem kRd_readItem : MOK mRd_readItem := ⟨wi 2 202 rfl rfl, wi 1 5 rfl rfl, by decide +kernel, rfl, by decide +kernel, by decide +kernel, Nat.le_of_ble_eq_true rfl⟩
abbrev mRd_itemBy : MT := (5, ⟨"EveryonesThirdWord$Reader", "itemBy", "(II)I"⟩, prog_7_method_4_code, 2, (some FieldType.int))
set_option maxRecDepth 100000 in
theorem kRd_itemBy : MOK mRd_itemBy := ⟨wi 2 206 rfl rfl, wi 1 5 rfl rfl, by decide +kernel, rfl, by decide +kernel, by decide +kernel, Nat.le_of_ble_eq_true rfl⟩
abbrev mRd_wordOf : MT := (5, ⟨"EveryonesThirdWord$Reader", "wordOf", "(I)Ljava/lang/String;"⟩, prog_7_method_5_code, 1, (some (FieldType.object "java/lang/String")))
set_option maxRecDepth 100000 in
theorem kRd_wordOf : MOK mRd_wordOf := ⟨wi 2 209 rfl rfl, wi 1 5 rfl rfl, by decide +kernel, rfl, by decide +kernel, by decide +kernel, Nat.le_of_ble_eq_true rfl⟩
abbrev mRd_takeWord : MT := (5, ⟨"EveryonesThirdWord$Reader", "takeWord", "(LEveryonesThirdWord$Shelf;Ljava/lang/String;)V"⟩, prog_7_method_11_code, 4, none)
set_option maxRecDepth 100000 in
theorem kRd_takeWord : MOK mRd_takeWord := ⟨wi 2 218 rfl rfl, wi 1 5 rfl rfl, by decide +kernel, rfl, by decide +kernel, by decide +kernel, Nat.le_of_ble_eq_true rfl⟩
abbrev mJS_length : MT := (13, ⟨"java/lang/String", "length", "()I"⟩, prog_14_method_54_code, 1, (some FieldType.int))
set_option maxRecDepth 100000 in
theorem kJS_length : MOK mJS_length := ⟨wi 2 222 rfl rfl, wi 1 13 rfl rfl, by decide +kernel, rfl, by decide +kernel, by decide +kernel, Nat.le_of_ble_eq_true rfl⟩
abbrev mJS_coder : MT := (13, ⟨"java/lang/String", "coder", "()B"⟩, prog_14_method_152_code, 1, (some FieldType.byte))
set_option maxRecDepth 100000 in
theorem kJS_coder : MOK mJS_coder := ⟨wi 2 226 rfl rfl, wi 1 13 rfl rfl, by decide +kernel, rfl, by decide +kernel, by decide +kernel, Nat.le_of_ble_eq_true rfl⟩
abbrev mJS_charAt : MT := (13, ⟨"java/lang/String", "charAt", "(I)C"⟩, prog_14_method_56_code, 2, (some FieldType.char))
set_option maxRecDepth 100000 in
theorem kJS_charAt : MOK mJS_charAt := ⟨wi 2 232 rfl rfl, wi 1 13 rfl rfl, by decide +kernel, rfl, by decide +kernel, by decide +kernel, Nat.le_of_ble_eq_true rfl⟩
abbrev mJS_isLatin1 : MT := (13, ⟨"java/lang/String", "isLatin1", "()Z"⟩, prog_14_method_154_code, 1, (some FieldType.boolean))
set_option maxRecDepth 100000 in
theorem kJS_isLatin1 : MOK mJS_isLatin1 := ⟨wi 2 236 rfl rfl, wi 1 13 rfl rfl, by decide +kernel, rfl, by decide +kernel, by decide +kernel, Nat.le_of_ble_eq_true rfl⟩
abbrev mJS1_charAt : MT := (15, ⟨"java/lang/StringLatin1", "charAt", "([BI)C"⟩, prog_15_method_2_code, 2, (some FieldType.char))
set_option maxRecDepth 100000 in
theorem kJS1_charAt : MOK mJS1_charAt := ⟨wi 2 239 rfl rfl, wi 1 14 rfl rfl, by decide +kernel, rfl, by decide +kernel, by decide +kernel, Nat.le_of_ble_eq_true rfl⟩
abbrev mJS_checkIndex : MT := (13, ⟨"java/lang/String", "checkIndex", "(II)V"⟩, prog_14_method_155_code, 2, none)
set_option maxRecDepth 100000 in
theorem kJS_checkIndex : MOK mJS_checkIndex := ⟨wi 3 2 rfl rfl, wi 1 13 rfl rfl, by decide +kernel, rfl, by decide +kernel, by decide +kernel, Nat.le_of_ble_eq_true rfl⟩
abbrev mJP_checkIndex : MT := (16, ⟨"jdk/internal/util/Preconditions", "checkIndex", "(IILjava/util/function/BiFunction;)I"⟩, prog_18_method_11_code, 3, (some FieldType.int))
set_option maxRecDepth 100000 in
theorem kJP_checkIndex : MOK mJP_checkIndex := ⟨wi 3 7 rfl rfl, wi 1 15 rfl rfl, by decide +kernel, rfl, by decide +kernel, by decide +kernel, Nat.le_of_ble_eq_true rfl⟩
abbrev mJS2_charAt : MT := (17, ⟨"java/lang/StringUTF16", "charAt", "([BI)C"⟩, prog_16_method_83_code, 2, (some FieldType.char))
set_option maxRecDepth 100000 in
theorem kJS2_charAt : MOK mJS2_charAt := ⟨wi 3 10 rfl rfl, wi 1 16 rfl rfl, by decide +kernel, rfl, by decide +kernel, by decide +kernel, Nat.le_of_ble_eq_true rfl⟩
abbrev mJS2_checkIndex : MT := (17, ⟨"java/lang/StringUTF16", "checkIndex", "(I[B)V"⟩, prog_16_method_91_code, 2, none)
set_option maxRecDepth 100000 in
theorem kJS2_checkIndex : MOK mJS2_checkIndex := ⟨wi 3 13 rfl rfl, wi 1 16 rfl rfl, by decide +kernel, rfl, by decide +kernel, by decide +kernel, Nat.le_of_ble_eq_true rfl⟩
abbrev mJS2_length : MT := (17, ⟨"java/lang/StringUTF16", "length", "([B)I"⟩, prog_16_method_6_code, 1, (some FieldType.int))
set_option maxRecDepth 100000 in
theorem kJS2_length : MOK mJS2_length := ⟨wi 3 16 rfl rfl, wi 1 16 rfl rfl, by decide +kernel, rfl, by decide +kernel, by decide +kernel, Nat.le_of_ble_eq_true rfl⟩
abbrev mJS2_getChar : MT := (17, ⟨"java/lang/StringUTF16", "getChar", "([BI)C"⟩, prog_16_method_5_code, 2, (some FieldType.char))
set_option maxRecDepth 100000 in
theorem kJS2_getChar : MOK mJS2_getChar := ⟨wi 3 20 rfl rfl, wi 1 16 rfl rfl, by decide +kernel, rfl, by decide +kernel, by decide +kernel, Nat.le_of_ble_eq_true rfl⟩
abbrev mRd_take : MT := (5, ⟨"EveryonesThirdWord$Reader", "take", "(LEveryonesThirdWord$Shelf;I)V"⟩, prog_7_method_10_code, 3, none)
set_option maxRecDepth 100000 in
theorem kRd_take : MOK mRd_take := ⟨wi 3 30 rfl rfl, wi 1 5 rfl rfl, by decide +kernel, rfl, by decide +kernel, by decide +kernel, Nat.le_of_ble_eq_true rfl⟩
abbrev mRd_lacksRoom : MT := (5, ⟨"EveryonesThirdWord$Reader", "lacksRoom", "(I)Z"⟩, prog_7_method_6_code, 2, (some FieldType.boolean))
set_option maxRecDepth 100000 in
theorem kRd_lacksRoom : MOK mRd_lacksRoom := ⟨wi 3 35 rfl rfl, wi 1 5 rfl rfl, by decide +kernel, rfl, by decide +kernel, by decide +kernel, Nat.le_of_ble_eq_true rfl⟩
abbrev mRd_readMan : MT := (5, ⟨"EveryonesThirdWord$Reader", "readMan", "(LEveryonesThirdWord$Shelf;)V"⟩, prog_7_method_7_code, 5, none)
set_option maxRecDepth 100000 in
theorem kRd_readMan : MOK mRd_readMan := ⟨wi 3 39 rfl rfl, wi 1 5 rfl rfl, by decide +kernel, rfl, by decide +kernel, by decide +kernel, Nat.le_of_ble_eq_true rfl⟩
abbrev mRd_takeNumber : MT := (5, ⟨"EveryonesThirdWord$Reader", "takeNumber", "(LEveryonesThirdWord$Shelf;I)I"⟩, prog_7_method_12_code, 5, (some FieldType.int))
set_option maxRecDepth 100000 in
theorem kRd_takeNumber : MOK mRd_takeNumber := ⟨wi 3 43 rfl rfl, wi 1 5 rfl rfl, by decide +kernel, rfl, by decide +kernel, by decide +kernel, Nat.le_of_ble_eq_true rfl⟩
abbrev mRd_isDigit : MT := (5, ⟨"EveryonesThirdWord$Reader", "isDigit", "(I)Z"⟩, prog_7_method_13_code, 1, (some FieldType.boolean))
set_option maxRecDepth 100000 in
theorem kRd_isDigit : MOK mRd_isDigit := ⟨wi 3 46 rfl rfl, wi 1 5 rfl rfl, by decide +kernel, rfl, by decide +kernel, by decide +kernel, Nat.le_of_ble_eq_true rfl⟩
abbrev mRd_readMeeting : MT := (5, ⟨"EveryonesThirdWord$Reader", "readMeeting", "(LEveryonesThirdWord$Shelf;Z)V"⟩, prog_7_method_8_code, 5, none)
set_option maxRecDepth 100000 in
theorem kRd_readMeeting : MOK mRd_readMeeting := ⟨wi 3 51 rfl rfl, wi 1 5 rfl rfl, by decide +kernel, rfl, by decide +kernel, by decide +kernel, Nat.le_of_ble_eq_true rfl⟩
abbrev mRd_readWord : MT := (5, ⟨"EveryonesThirdWord$Reader", "readWord", "(LEveryonesThirdWord$Shelf;)V"⟩, prog_7_method_9_code, 3, none)
set_option maxRecDepth 100000 in
theorem kRd_readWord : MOK mRd_readWord := ⟨wi 3 56 rfl rfl, wi 1 5 rfl rfl, by decide +kernel, rfl, by decide +kernel, by decide +kernel, Nat.le_of_ble_eq_true rfl⟩
abbrev mX_fault : MT := (7, ⟨"EveryonesThirdWord", "fault", "()I"⟩, prog_1_method_15_code, 1, (some FieldType.int))
set_option maxRecDepth 100000 in
theorem kX_fault : MOK mX_fault := ⟨wi 3 63 rfl rfl, wi 1 1 rfl rfl, by decide +kernel, rfl, by decide +kernel, by decide +kernel, Nat.le_of_ble_eq_true rfl⟩
abbrev mX_hears : MT := (7, ⟨"EveryonesThirdWord", "hears", "(II)I"⟩, prog_1_method_16_code, 3, (some FieldType.int))
set_option maxRecDepth 100000 in
theorem kX_hears : MOK mX_hears := ⟨wi 3 67 rfl rfl, wi 1 1 rfl rfl, by decide +kernel, rfl, by decide +kernel, by decide +kernel, Nat.le_of_ble_eq_true rfl⟩
abbrev mX_sense : MT := (7, ⟨"EveryonesThirdWord", "sense", "(II)I"⟩, prog_1_method_17_code, 3, (some FieldType.int))
set_option maxRecDepth 100000 in
theorem kX_sense : MOK mX_sense := ⟨wi 3 71 rfl rfl, wi 1 1 rfl rfl, by decide +kernel, rfl, by decide +kernel, by decide +kernel, Nat.le_of_ble_eq_true rfl⟩
abbrev mX_refuseFar : MT := (7, ⟨"EveryonesThirdWord", "refuseFar", "(I)I"⟩, prog_1_method_44_code, 2, (some FieldType.int))
set_option maxRecDepth 100000 in
theorem kX_refuseFar : MOK mX_refuseFar := ⟨wi 3 75 rfl rfl, wi 1 1 rfl rfl, by decide +kernel, rfl, by decide +kernel, by decide +kernel, Nat.le_of_ble_eq_true rfl⟩
abbrev mX_isRounds : MT := (7, ⟨"EveryonesThirdWord", "isRounds", "(I)Z"⟩, prog_1_method_47_code, 1, (some FieldType.boolean))
set_option maxRecDepth 100000 in
theorem kX_isRounds : MOK mX_isRounds := ⟨wi 3 78 rfl rfl, wi 1 1 rfl rfl, by decide +kernel, rfl, by decide +kernel, by decide +kernel, Nat.le_of_ble_eq_true rfl⟩
abbrev mX_knownBehind : MT := (7, ⟨"EveryonesThirdWord", "knownBehind", "(II)I"⟩, prog_1_method_51_code, 3, (some FieldType.int))
set_option maxRecDepth 100000 in
theorem kX_knownBehind : MOK mX_knownBehind := ⟨wi 3 82 rfl rfl, wi 1 1 rfl rfl, by decide +kernel, rfl, by decide +kernel, by decide +kernel, Nat.le_of_ble_eq_true rfl⟩
abbrev mCo_begin : MT := (0, ⟨"EveryonesThirdWord$Coaches", "begin", "(LEveryonesThirdWord$Court;)V"⟩, prog_2_method_2_code, 3, none)
set_option maxRecDepth 100000 in
theorem kCo_begin : MOK mCo_begin := ⟨wi 3 86 rfl rfl, wi 1 6 rfl rfl, by decide +kernel, rfl, by decide +kernel, by decide +kernel, Nat.le_of_ble_eq_true rfl⟩
abbrev mCo_ride : MT := (0, ⟨"EveryonesThirdWord$Coaches", "ride", "(I)V"⟩, prog_2_method_3_code, 3, none)
set_option maxRecDepth 100000 in
theorem kCo_ride : MOK mCo_ride := ⟨wi 3 91 rfl rfl, wi 1 6 rfl rfl, by decide +kernel, rfl, by decide +kernel, by decide +kernel, Nat.le_of_ble_eq_true rfl⟩
abbrev mCo_rideOnce : MT := (0, ⟨"EveryonesThirdWord$Coaches", "rideOnce", "()V"⟩, prog_2_method_4_code, 3, none)
set_option maxRecDepth 100000 in
theorem kCo_rideOnce : MOK mCo_rideOnce := ⟨wi 3 95 rfl rfl, wi 1 6 rfl rfl, by decide +kernel, rfl, by decide +kernel, by decide +kernel, Nat.le_of_ble_eq_true rfl⟩
abbrev mCt_senseOf : MT := (2, ⟨"EveryonesThirdWord$Court", "senseOf", "(I)I"⟩, prog_4_method_12_code, 2, (some FieldType.int))
set_option maxRecDepth 100000 in
theorem kCt_senseOf : MOK mCt_senseOf := ⟨wi 3 100 rfl rfl, wi 1 2 rfl rfl, by decide +kernel, rfl, by decide +kernel, by decide +kernel, Nat.le_of_ble_eq_true rfl⟩
abbrev mX_senseIn : MT := (7, ⟨"EveryonesThirdWord", "senseIn", "([III)I"⟩, prog_1_method_56_code, 9, (some FieldType.int))
set_option maxRecDepth 100000 in
theorem kX_senseIn : MOK mX_senseIn := ⟨wi 3 103 rfl rfl, wi 1 1 rfl rfl, by decide +kernel, rfl, by decide +kernel, by decide +kernel, Nat.le_of_ble_eq_true rfl⟩
abbrev mX_whole : MT := (7, ⟨"EveryonesThirdWord", "whole", "()I"⟩, prog_1_method_18_code, 1, (some FieldType.int))
set_option maxRecDepth 100000 in
theorem kX_whole : MOK mX_whole := ⟨wi 3 107 rfl rfl, wi 1 1 rfl rfl, by decide +kernel, rfl, by decide +kernel, by decide +kernel, Nat.le_of_ble_eq_true rfl⟩
abbrev mCt_wholeSense : MT := (2, ⟨"EveryonesThirdWord$Court", "wholeSense", "()I"⟩, prog_4_method_13_code, 1, (some FieldType.int))
set_option maxRecDepth 100000 in
theorem kCt_wholeSense : MOK mCt_wholeSense := ⟨wi 3 111 rfl rfl, wi 1 2 rfl rfl, by decide +kernel, rfl, by decide +kernel, by decide +kernel, Nat.le_of_ble_eq_true rfl⟩
abbrev mX_known : MT := (7, ⟨"EveryonesThirdWord", "known", "(II)I"⟩, prog_1_method_19_code, 3, (some FieldType.int))
set_option maxRecDepth 100000 in
theorem kX_known : MOK mX_known := ⟨wi 3 117 rfl rfl, wi 1 1 rfl rfl, by decide +kernel, rfl, by decide +kernel, by decide +kernel, Nat.le_of_ble_eq_true rfl⟩
abbrev mX_belief : MT := (7, ⟨"EveryonesThirdWord", "belief", "(I)I"⟩, prog_1_method_20_code, 2, (some FieldType.int))
set_option maxRecDepth 100000 in
theorem kX_belief : MOK mX_belief := ⟨wi 3 121 rfl rfl, wi 1 1 rfl rfl, by decide +kernel, rfl, by decide +kernel, by decide +kernel, Nat.le_of_ble_eq_true rfl⟩
abbrev mX_together : MT := (7, ⟨"EveryonesThirdWord", "together", "(II)I"⟩, prog_1_method_21_code, 4, (some FieldType.int))
set_option maxRecDepth 100000 in
theorem kX_together : MOK mX_together := ⟨wi 3 125 rfl rfl, wi 1 1 rfl rfl, by decide +kernel, rfl, by decide +kernel, by decide +kernel, Nat.le_of_ble_eq_true rfl⟩
abbrev mCt_isSet : MT := (2, ⟨"EveryonesThirdWord$Court", "isSet", "(I)Z"⟩, prog_4_method_5_code, 2, (some FieldType.boolean))
set_option maxRecDepth 100000 in
theorem kCt_isSet : MOK mCt_isSet := ⟨wi 3 129 rfl rfl, wi 1 2 rfl rfl, by decide +kernel, rfl, by decide +kernel, by decide +kernel, Nat.le_of_ble_eq_true rfl⟩
abbrev mCl_placesHeardBy : MT := (1, ⟨"EveryonesThirdWord$Council", "placesHeardBy", "(LEveryonesThirdWord$Court;I)I"⟩, prog_3_method_3_code, 3, (some FieldType.int))
set_option maxRecDepth 100000 in
theorem kCl_placesHeardBy : MOK mCl_placesHeardBy := ⟨wi 3 133 rfl rfl, wi 1 7 rfl rfl, by decide +kernel, rfl, by decide +kernel, by decide +kernel, Nat.le_of_ble_eq_true rfl⟩
abbrev mCl_listen : MT := (1, ⟨"EveryonesThirdWord$Council", "listen", "(LEveryonesThirdWord$Court;)V"⟩, prog_3_method_2_code, 3, none)
set_option maxRecDepth 100000 in
theorem kCl_listen : MOK mCl_listen := ⟨wi 3 137 rfl rfl, wi 1 7 rfl rfl, by decide +kernel, rfl, by decide +kernel, by decide +kernel, Nat.le_of_ble_eq_true rfl⟩
abbrev mCl_heardByAny : MT := (1, ⟨"EveryonesThirdWord$Council", "heardByAny", "(I)I"⟩, prog_3_method_4_code, 4, (some FieldType.int))
set_option maxRecDepth 100000 in
theorem kCl_heardByAny : MOK mCl_heardByAny := ⟨wi 3 142 rfl rfl, wi 1 7 rfl rfl, by decide +kernel, rfl, by decide +kernel, by decide +kernel, Nat.le_of_ble_eq_true rfl⟩
abbrev mCl_isSure : MT := (1, ⟨"EveryonesThirdWord$Council", "isSure", "(LEveryonesThirdWord$Court;I)Z"⟩, prog_3_method_5_code, 8, (some FieldType.boolean))
set_option maxRecDepth 100000 in
theorem kCl_isSure : MOK mCl_isSure := ⟨wi 3 146 rfl rfl, wi 1 7 rfl rfl, by decide +kernel, rfl, by decide +kernel, by decide +kernel, Nat.le_of_ble_eq_true rfl⟩
abbrev mX_cover : MT := (7, ⟨"EveryonesThirdWord", "cover", "()I"⟩, prog_1_method_22_code, 1, (some FieldType.int))
set_option maxRecDepth 100000 in
theorem kX_cover : MOK mX_cover := ⟨wi 3 153 rfl rfl, wi 1 1 rfl rfl, by decide +kernel, rfl, by decide +kernel, by decide +kernel, Nat.le_of_ble_eq_true rfl⟩
abbrev mCl_fewestWhoCover : MT := (1, ⟨"EveryonesThirdWord$Council", "fewestWhoCover", "(LEveryonesThirdWord$Court;)I"⟩, prog_3_method_6_code, 7, (some FieldType.int))
set_option maxRecDepth 100000 in
theorem kCl_fewestWhoCover : MOK mCl_fewestWhoCover := ⟨wi 3 157 rfl rfl, wi 1 7 rfl rfl, by decide +kernel, rfl, by decide +kernel, by decide +kernel, Nat.le_of_ble_eq_true rfl⟩
abbrev mX_ask : MT := (7, ⟨"EveryonesThirdWord", "ask", "(I)I"⟩, prog_1_method_23_code, 2, (some FieldType.int))
set_option maxRecDepth 100000 in
theorem kX_ask : MOK mX_ask := ⟨wi 3 162 rfl rfl, wi 1 1 rfl rfl, by decide +kernel, rfl, by decide +kernel, by decide +kernel, Nat.le_of_ble_eq_true rfl⟩
abbrev mCl_nextToAsk : MT := (1, ⟨"EveryonesThirdWord$Council", "nextToAsk", "(LEveryonesThirdWord$Court;I)I"⟩, prog_3_method_7_code, 8, (some FieldType.int))
set_option maxRecDepth 100000 in
theorem kCl_nextToAsk : MOK mCl_nextToAsk := ⟨wi 3 166 rfl rfl, wi 1 7 rfl rfl, by decide +kernel, rfl, by decide +kernel, by decide +kernel, Nat.le_of_ble_eq_true rfl⟩
abbrev mX_soon : MT := (7, ⟨"EveryonesThirdWord", "soon", "(I)I"⟩, prog_1_method_24_code, 2, (some FieldType.int))
set_option maxRecDepth 100000 in
theorem kX_soon : MOK mX_soon := ⟨wi 3 171 rfl rfl, wi 1 1 rfl rfl, by decide +kernel, rfl, by decide +kernel, by decide +kernel, Nat.le_of_ble_eq_true rfl⟩
abbrev mCo_roundsUntilWhole : MT := (0, ⟨"EveryonesThirdWord$Coaches", "roundsUntilWhole", "(LEveryonesThirdWord$Court;I)I"⟩, prog_2_method_6_code, 5, (some FieldType.int))
set_option maxRecDepth 100000 in
theorem kCo_roundsUntilWhole : MOK mCo_roundsUntilWhole := ⟨wi 3 175 rfl rfl, wi 1 6 rfl rfl, by decide +kernel, rfl, by decide +kernel, by decide +kernel, Nat.le_of_ble_eq_true rfl⟩
abbrev mX_wrongOnes : MT := (7, ⟨"EveryonesThirdWord", "wrongOnes", "(I)I"⟩, prog_1_method_25_code, 2, (some FieldType.int))
set_option maxRecDepth 100000 in
theorem kX_wrongOnes : MOK mX_wrongOnes := ⟨wi 3 182 rfl rfl, wi 1 1 rfl rfl, by decide +kernel, rfl, by decide +kernel, by decide +kernel, Nat.le_of_ble_eq_true rfl⟩
abbrev mCo_falseOnes : MT := (0, ⟨"EveryonesThirdWord$Coaches", "falseOnes", "(LEveryonesThirdWord$Court;)I"⟩, prog_2_method_7_code, 6, (some FieldType.int))
set_option maxRecDepth 100000 in
theorem kCo_falseOnes : MOK mCo_falseOnes := ⟨wi 3 186 rfl rfl, wi 1 6 rfl rfl, by decide +kernel, rfl, by decide +kernel, by decide +kernel, Nat.le_of_ble_eq_true rfl⟩
abbrev mX_apart : MT := (7, ⟨"EveryonesThirdWord", "apart", "(I)I"⟩, prog_1_method_26_code, 2, (some FieldType.int))
set_option maxRecDepth 100000 in
theorem kX_apart : MOK mX_apart := ⟨wi 3 190 rfl rfl, wi 1 1 rfl rfl, by decide +kernel, rfl, by decide +kernel, by decide +kernel, Nat.le_of_ble_eq_true rfl⟩
abbrev mCo_fewestApart : MT := (0, ⟨"EveryonesThirdWord$Coaches", "fewestApart", "(LEveryonesThirdWord$Court;I)I"⟩, prog_2_method_9_code, 7, (some FieldType.int))
set_option maxRecDepth 100000 in
theorem kCo_fewestApart : MOK mCo_fewestApart := ⟨wi 3 194 rfl rfl, wi 1 6 rfl rfl, by decide +kernel, rfl, by decide +kernel, by decide +kernel, Nat.le_of_ble_eq_true rfl⟩
abbrev mCo_sendAway : MT := (0, ⟨"EveryonesThirdWord$Coaches", "sendAway", "(I)V"⟩, prog_2_method_5_code, 3, none)
set_option maxRecDepth 100000 in
theorem kCo_sendAway : MOK mCo_sendAway := ⟨wi 3 200 rfl rfl, wi 1 6 rfl rfl, by decide +kernel, rfl, by decide +kernel, by decide +kernel, Nat.le_of_ble_eq_true rfl⟩
abbrev mX_lose : MT := (7, ⟨"EveryonesThirdWord", "lose", "()I"⟩, prog_1_method_27_code, 1, (some FieldType.int))
set_option maxRecDepth 100000 in
theorem kX_lose : MOK mX_lose := ⟨wi 3 205 rfl rfl, wi 1 1 rfl rfl, by decide +kernel, rfl, by decide +kernel, by decide +kernel, Nat.le_of_ble_eq_true rfl⟩
abbrev mCo_worstLoss : MT := (0, ⟨"EveryonesThirdWord$Coaches", "worstLoss", "(LEveryonesThirdWord$Court;)I"⟩, prog_2_method_10_code, 7, (some FieldType.int))
set_option maxRecDepth 100000 in
theorem kCo_worstLoss : MOK mCo_worstLoss := ⟨wi 3 209 rfl rfl, wi 1 6 rfl rfl, by decide +kernel, rfl, by decide +kernel, by decide +kernel, Nat.le_of_ble_eq_true rfl⟩
abbrev mCo_howManyHaveWhole : MT := (0, ⟨"EveryonesThirdWord$Coaches", "howManyHaveWhole", "(LEveryonesThirdWord$Court;)I"⟩, prog_2_method_8_code, 5, (some FieldType.int))
set_option maxRecDepth 100000 in
theorem kCo_howManyHaveWhole : MOK mCo_howManyHaveWhole := ⟨wi 3 215 rfl rfl, wi 1 6 rfl rfl, by decide +kernel, rfl, by decide +kernel, by decide +kernel, Nat.le_of_ble_eq_true rfl⟩
abbrev mX_speak : MT := (7, ⟨"EveryonesThirdWord", "speak", "(IIII)I"⟩, prog_1_method_28_code, 8, (some FieldType.int))
set_option maxRecDepth 100000 in
theorem kX_speak : MOK mX_speak := ⟨wi 3 219 rfl rfl, wi 1 1 rfl rfl, by decide +kernel, rfl, by decide +kernel, by decide +kernel, Nat.le_of_ble_eq_true rfl⟩
abbrev mX_maySpeak : MT := (7, ⟨"EveryonesThirdWord", "maySpeak", "(I)Z"⟩, prog_1_method_53_code, 1, (some FieldType.boolean))
set_option maxRecDepth 100000 in
theorem kX_maySpeak : MOK mX_maySpeak := ⟨wi 3 222 rfl rfl, wi 1 1 rfl rfl, by decide +kernel, rfl, by decide +kernel, by decide +kernel, Nat.le_of_ble_eq_true rfl⟩
abbrev mX_ownLength : MT := (7, ⟨"EveryonesThirdWord", "ownLength", "(I)I"⟩, prog_1_method_54_code, 1, (some FieldType.int))
set_option maxRecDepth 100000 in
theorem kX_ownLength : MOK mX_ownLength := ⟨wi 3 225 rfl rfl, wi 1 1 rfl rfl, by decide +kernel, rfl, by decide +kernel, by decide +kernel, Nat.le_of_ble_eq_true rfl⟩
abbrev mX_ownWord : MT := (7, ⟨"EveryonesThirdWord", "ownWord", "(II)I"⟩, prog_1_method_55_code, 3, (some FieldType.int))
set_option maxRecDepth 100000 in
theorem kX_ownWord : MOK mX_ownWord := ⟨wi 3 228 rfl rfl, wi 1 1 rfl rfl, by decide +kernel, rfl, by decide +kernel, by decide +kernel, Nat.le_of_ble_eq_true rfl⟩
abbrev mX_needs : MT := (7, ⟨"EveryonesThirdWord", "needs", "(I)I"⟩, prog_1_method_29_code, 4, (some FieldType.int))
set_option maxRecDepth 100000 in
theorem kX_needs : MOK mX_needs := ⟨wi 3 232 rfl rfl, wi 1 1 rfl rfl, by decide +kernel, rfl, by decide +kernel, by decide +kernel, Nat.le_of_ble_eq_true rfl⟩
abbrev mCl_shortestFor : MT := (1, ⟨"EveryonesThirdWord$Council", "shortestFor", "(LEveryonesThirdWord$Court;LEveryonesThirdWord$Shelf;)I"⟩, prog_3_method_8_code, 8, (some FieldType.int))
set_option maxRecDepth 100000 in
theorem kCl_shortestFor : MOK mCl_shortestFor := ⟨wi 3 236 rfl rfl, wi 1 7 rfl rfl, by decide +kernel, rfl, by decide +kernel, by decide +kernel, Nat.le_of_ble_eq_true rfl⟩
abbrev mJL_bitCount : MT := (11, ⟨"java/lang/Long", "bitCount", "(J)I"⟩, prog_12_method_50_code, 2, (some FieldType.int))
set_option maxRecDepth 100000 in
theorem kJL_bitCount : MOK mJL_bitCount := ⟨wi 4 0 rfl rfl, wi 1 17 rfl rfl, by decide +kernel, rfl, by decide +kernel, by decide +kernel, Nat.le_of_ble_eq_true rfl⟩
abbrev mX_count : MT := (7, ⟨"EveryonesThirdWord", "count", "(II)I"⟩, prog_1_method_30_code, 4, (some FieldType.int))
set_option maxRecDepth 100000 in
theorem kX_count : MOK mX_count := ⟨wi 4 8 rfl rfl, wi 1 1 rfl rfl, by decide +kernel, rfl, by decide +kernel, by decide +kernel, Nat.le_of_ble_eq_true rfl⟩
abbrev mCl_slips : MT := (1, ⟨"EveryonesThirdWord$Council", "slips", "(LEveryonesThirdWord$Court;LEveryonesThirdWord$Shelf;)I"⟩, prog_3_method_11_code, 6, (some FieldType.int))
set_option maxRecDepth 100000 in
theorem kCl_slips : MOK mCl_slips := ⟨wi 4 12 rfl rfl, wi 1 7 rfl rfl, by decide +kernel, rfl, by decide +kernel, by decide +kernel, Nat.le_of_ble_eq_true rfl⟩
abbrev mCl_slipHearsJust : MT := (1, ⟨"EveryonesThirdWord$Council", "slipHearsJust", "(LEveryonesThirdWord$Court;IILEveryonesThirdWord$Shelf;)Z"⟩, prog_3_method_10_code, 5, (some FieldType.boolean))
set_option maxRecDepth 100000 in
theorem kCl_slipHearsJust : MOK mCl_slipHearsJust := ⟨wi 4 16 rfl rfl, wi 1 7 rfl rfl, by decide +kernel, rfl, by decide +kernel, by decide +kernel, Nat.le_of_ble_eq_true rfl⟩
abbrev mCl_isJust : MT := (1, ⟨"EveryonesThirdWord$Council", "isJust", "(LEveryonesThirdWord$Court;ILEveryonesThirdWord$Shelf;)Z"⟩, prog_3_method_9_code, 6, (some FieldType.boolean))
set_option maxRecDepth 100000 in
theorem kCl_isJust : MOK mCl_isJust := ⟨wi 4 21 rfl rfl, wi 1 7 rfl rfl, by decide +kernel, rfl, by decide +kernel, by decide +kernel, Nat.le_of_ble_eq_true rfl⟩
abbrev mCl_firstSlip : MT := (1, ⟨"EveryonesThirdWord$Council", "firstSlip", "(LEveryonesThirdWord$Court;LEveryonesThirdWord$Shelf;)I"⟩, prog_3_method_12_code, 5, (some FieldType.int))
set_option maxRecDepth 100000 in
theorem kCl_firstSlip : MOK mCl_firstSlip := ⟨wi 4 25 rfl rfl, wi 1 7 rfl rfl, by decide +kernel, rfl, by decide +kernel, by decide +kernel, Nat.le_of_ble_eq_true rfl⟩
abbrev mX_could : MT := (7, ⟨"EveryonesThirdWord", "could", "(I)I"⟩, prog_1_method_31_code, 3, (some FieldType.int))
set_option maxRecDepth 100000 in
theorem kX_could : MOK mX_could := ⟨wi 4 29 rfl rfl, wi 1 1 rfl rfl, by decide +kernel, rfl, by decide +kernel, by decide +kernel, Nat.le_of_ble_eq_true rfl⟩
abbrev mCl_whoHearJust : MT := (1, ⟨"EveryonesThirdWord$Council", "whoHearJust", "(LEveryonesThirdWord$Court;LEveryonesThirdWord$Shelf;)I"⟩, prog_3_method_13_code, 5, (some FieldType.int))
set_option maxRecDepth 100000 in
theorem kCl_whoHearJust : MOK mCl_whoHearJust := ⟨wi 4 33 rfl rfl, wi 1 7 rfl rfl, by decide +kernel, rfl, by decide +kernel, by decide +kernel, Nat.le_of_ble_eq_true rfl⟩
abbrev mX_swap : MT := (7, ⟨"EveryonesThirdWord", "swap", "()I"⟩, prog_1_method_32_code, 1, (some FieldType.int))
set_option maxRecDepth 100000 in
theorem kX_swap : MOK mX_swap := ⟨wi 4 37 rfl rfl, wi 1 1 rfl rfl, by decide +kernel, rfl, by decide +kernel, by decide +kernel, Nat.le_of_ble_eq_true rfl⟩
abbrev mCl_bestSwap : MT := (1, ⟨"EveryonesThirdWord$Council", "bestSwap", "(LEveryonesThirdWord$Court;)I"⟩, prog_3_method_14_code, 8, (some FieldType.int))
set_option maxRecDepth 100000 in
theorem kCl_bestSwap : MOK mCl_bestSwap := ⟨wi 4 41 rfl rfl, wi 1 7 rfl rfl, by decide +kernel, rfl, by decide +kernel, by decide +kernel, Nat.le_of_ble_eq_true rfl⟩
abbrev mCl_howManyHaveSense : MT := (1, ⟨"EveryonesThirdWord$Council", "howManyHaveSense", "(II)I"⟩, prog_3_method_16_code, 5, (some FieldType.int))
set_option maxRecDepth 100000 in
theorem kCl_howManyHaveSense : MOK mCl_howManyHaveSense := ⟨wi 4 46 rfl rfl, wi 1 7 rfl rfl, by decide +kernel, rfl, by decide +kernel, by decide +kernel, Nat.le_of_ble_eq_true rfl⟩
abbrev mCl_exchange : MT := (1, ⟨"EveryonesThirdWord$Council", "exchange", "(II)V"⟩, prog_3_method_15_code, 4, none)
set_option maxRecDepth 100000 in
theorem kCl_exchange : MOK mCl_exchange := ⟨wi 4 50 rfl rfl, wi 1 7 rfl rfl, by decide +kernel, rfl, by decide +kernel, by decide +kernel, Nat.le_of_ble_eq_true rfl⟩
abbrev mX_judge : MT := (7, ⟨"EveryonesThirdWord", "judge", "(II)I"⟩, prog_1_method_33_code, 4, (some FieldType.int))
set_option maxRecDepth 100000 in
theorem kX_judge : MOK mX_judge := ⟨wi 4 54 rfl rfl, wi 1 1 rfl rfl, by decide +kernel, rfl, by decide +kernel, by decide +kernel, Nat.le_of_ble_eq_true rfl⟩
abbrev mX_would : MT := (7, ⟨"EveryonesThirdWord", "would", "(III)I"⟩, prog_1_method_34_code, 5, (some FieldType.int))
set_option maxRecDepth 100000 in
theorem kX_would : MOK mX_would := ⟨wi 4 58 rfl rfl, wi 1 1 rfl rfl, by decide +kernel, rfl, by decide +kernel, by decide +kernel, Nat.le_of_ble_eq_true rfl⟩
abbrev mCl_senseOfTold : MT := (1, ⟨"EveryonesThirdWord$Council", "senseOfTold", "(LEveryonesThirdWord$Shelf;II)I"⟩, prog_3_method_17_code, 5, (some FieldType.int))
set_option maxRecDepth 100000 in
theorem kCl_senseOfTold : MOK mCl_senseOfTold := ⟨wi 4 63 rfl rfl, wi 1 7 rfl rfl, by decide +kernel, rfl, by decide +kernel, by decide +kernel, Nat.le_of_ble_eq_true rfl⟩
abbrev mX_audience : MT := (7, ⟨"EveryonesThirdWord", "audience", "(I)I"⟩, prog_1_method_35_code, 2, (some FieldType.int))
set_option maxRecDepth 100000 in
theorem kX_audience : MOK mX_audience := ⟨wi 4 67 rfl rfl, wi 1 1 rfl rfl, by decide +kernel, rfl, by decide +kernel, by decide +kernel, Nat.le_of_ble_eq_true rfl⟩
abbrev mX_hold : MT := (7, ⟨"EveryonesThirdWord", "hold", "(I)I"⟩, prog_1_method_52_code, 2, (some FieldType.int))
set_option maxRecDepth 100000 in
theorem kX_hold : MOK mX_hold := ⟨wi 4 71 rfl rfl, wi 1 1 rfl rfl, by decide +kernel, rfl, by decide +kernel, by decide +kernel, Nat.le_of_ble_eq_true rfl⟩
abbrev mCo_believe : MT := (0, ⟨"EveryonesThirdWord$Coaches", "believe", "(LEveryonesThirdWord$Court;)I"⟩, prog_2_method_11_code, 6, (some FieldType.int))
set_option maxRecDepth 100000 in
theorem kCo_believe : MOK mCo_believe := ⟨wi 4 75 rfl rfl, wi 1 6 rfl rfl, by decide +kernel, rfl, by decide +kernel, by decide +kernel, Nat.le_of_ble_eq_true rfl⟩
abbrev mX_reign : MT := (7, ⟨"EveryonesThirdWord", "reign", "(I)I"⟩, prog_1_method_36_code, 4, (some FieldType.int))
set_option maxRecDepth 100000 in
theorem kX_reign : MOK mX_reign := ⟨wi 4 79 rfl rfl, wi 1 1 rfl rfl, by decide +kernel, rfl, by decide +kernel, by decide +kernel, Nat.le_of_ble_eq_true rfl⟩
abbrev mCt_drawSaying : MT := (2, ⟨"EveryonesThirdWord$Court", "drawSaying", "()V"⟩, prog_4_method_18_code, 3, none)
set_option maxRecDepth 100000 in
theorem kCt_drawSaying : MOK mCt_drawSaying := ⟨wi 4 83 rfl rfl, wi 1 2 rfl rfl, by decide +kernel, rfl, by decide +kernel, by decide +kernel, Nat.le_of_ble_eq_true rfl⟩
abbrev mCt_drawUpper : MT := (2, ⟨"EveryonesThirdWord$Court", "drawUpper", "()I"⟩, prog_4_method_17_code, 1, (some FieldType.int))
set_option maxRecDepth 100000 in
theorem kCt_drawUpper : MOK mCt_drawUpper := ⟨wi 4 88 rfl rfl, wi 1 2 rfl rfl, by decide +kernel, rfl, by decide +kernel, by decide +kernel, Nat.le_of_ble_eq_true rfl⟩
abbrev mX_seed : MT := (7, ⟨"EveryonesThirdWord", "seed", "(I)I"⟩, prog_1_method_37_code, 3, (some FieldType.int))
set_option maxRecDepth 100000 in
theorem kX_seed : MOK mX_seed := ⟨wi 4 94 rfl rfl, wi 1 1 rfl rfl, by decide +kernel, rfl, by decide +kernel, by decide +kernel, Nat.le_of_ble_eq_true rfl⟩
abbrev mX_act : MT := (7, ⟨"EveryonesThirdWord", "act", "(III)I"⟩, prog_1_method_38_code, 4, (some FieldType.int))
set_option maxRecDepth 100000 in
theorem kX_act : MOK mX_act := ⟨wi 4 98 rfl rfl, wi 1 1 rfl rfl, by decide +kernel, rfl, by decide +kernel, by decide +kernel, Nat.le_of_ble_eq_true rfl⟩
abbrev mMv_forget : MT := (4, ⟨"EveryonesThirdWord$Moves", "forget", "()V"⟩, prog_6_method_2_code, 1, none)
set_option maxRecDepth 100000 in
theorem kMv_forget : MOK mMv_forget := ⟨wi 4 102 rfl rfl, wi 1 8 rfl rfl, by decide +kernel, rfl, by decide +kernel, by decide +kernel, Nat.le_of_ble_eq_true rfl⟩
abbrev mMv_play : MT := (4, ⟨"EveryonesThirdWord$Moves", "play", "(LEveryonesThirdWord$Man;III)I"⟩, prog_6_method_4_code, 5, (some FieldType.int))
set_option maxRecDepth 100000 in
theorem kMv_play : MOK mMv_play := ⟨wi 4 106 rfl rfl, wi 1 8 rfl rfl, by decide +kernel, rfl, by decide +kernel, by decide +kernel, Nat.le_of_ble_eq_true rfl⟩
abbrev mMv_run : MT := (4, ⟨"EveryonesThirdWord$Moves", "run", "(LEveryonesThirdWord$Moves;IIII)I"⟩, prog_6_method_7_code, 9, (some FieldType.int))
set_option maxRecDepth 100000 in
theorem kMv_run : MOK mMv_run := ⟨wi 4 109 rfl rfl, wi 1 8 rfl rfl, by decide +kernel, rfl, by decide +kernel, by decide +kernel, Nat.le_of_ble_eq_true rfl⟩
abbrev mMv_ownerOf : MT := (4, ⟨"EveryonesThirdWord$Moves", "ownerOf", "(II)I"⟩, prog_6_method_6_code, 4, (some FieldType.int))
set_option maxRecDepth 100000 in
theorem kMv_ownerOf : MOK mMv_ownerOf := ⟨wi 4 112 rfl rfl, wi 1 8 rfl rfl, by decide +kernel, rfl, by decide +kernel, by decide +kernel, Nat.le_of_ble_eq_true rfl⟩
abbrev mMv_note : MT := (4, ⟨"EveryonesThirdWord$Moves", "note", "(I)V"⟩, prog_6_method_5_code, 2, none)
set_option maxRecDepth 100000 in
theorem kMv_note : MOK mMv_note := ⟨wi 4 120 rfl rfl, wi 1 8 rfl rfl, by decide +kernel, rfl, by decide +kernel, by decide +kernel, Nat.le_of_ble_eq_true rfl⟩
abbrev mX_trace : MT := (7, ⟨"EveryonesThirdWord", "trace", "(I)I"⟩, prog_1_method_39_code, 2, (some FieldType.int))
set_option maxRecDepth 100000 in
theorem kX_trace : MOK mX_trace := ⟨wi 4 124 rfl rfl, wi 1 1 rfl rfl, by decide +kernel, rfl, by decide +kernel, by decide +kernel, Nat.le_of_ble_eq_true rfl⟩
abbrev mMv_traced : MT := (4, ⟨"EveryonesThirdWord$Moves", "traced", "(I)I"⟩, prog_6_method_3_code, 2, (some FieldType.int))
set_option maxRecDepth 100000 in
theorem kMv_traced : MOK mMv_traced := ⟨wi 4 128 rfl rfl, wi 1 8 rfl rfl, by decide +kernel, rfl, by decide +kernel, by decide +kernel, Nat.le_of_ble_eq_true rfl⟩
abbrev mX_image : MT := (7, ⟨"EveryonesThirdWord", "image", "()I"⟩, prog_1_method_40_code, 1, (some FieldType.int))
set_option maxRecDepth 100000 in
theorem kX_image : MOK mX_image := ⟨wi 4 132 rfl rfl, wi 1 1 rfl rfl, by decide +kernel, rfl, by decide +kernel, by decide +kernel, Nat.le_of_ble_eq_true rfl⟩
abbrev mX_restore : MT := (7, ⟨"EveryonesThirdWord", "restore", "()I"⟩, prog_1_method_41_code, 2, (some FieldType.int))
set_option maxRecDepth 100000 in
theorem kX_restore : MOK mX_restore := ⟨wi 4 137 rfl rfl, wi 1 1 rfl rfl, by decide +kernel, rfl, by decide +kernel, by decide +kernel, Nat.le_of_ble_eq_true rfl⟩
abbrev mX_status : MT := (7, ⟨"EveryonesThirdWord", "status", "(I)I"⟩, prog_1_method_42_code, 2, (some FieldType.int))
set_option maxRecDepth 100000 in
theorem kX_status : MOK mX_status := ⟨wi 4 141 rfl rfl, wi 1 1 rfl rfl, by decide +kernel, rfl, by decide +kernel, by decide +kernel, Nat.le_of_ble_eq_true rfl⟩
abbrev mCt_meetings : MT := (2, ⟨"EveryonesThirdWord$Court", "meetings", "()I"⟩, prog_4_method_14_code, 3, (some FieldType.int))
set_option maxRecDepth 100000 in
theorem kCt_meetings : MOK mCt_meetings := ⟨wi 4 145 rfl rfl, wi 1 2 rfl rfl, by decide +kernel, rfl, by decide +kernel, by decide +kernel, Nat.le_of_ble_eq_true rfl⟩
abbrev mCt_allHits : MT := (2, ⟨"EveryonesThirdWord$Court", "allHits", "()I"⟩, prog_4_method_15_code, 3, (some FieldType.int))
set_option maxRecDepth 100000 in
theorem kCt_allHits : MOK mCt_allHits := ⟨wi 4 150 rfl rfl, wi 1 2 rfl rfl, by decide +kernel, rfl, by decide +kernel, by decide +kernel, Nat.le_of_ble_eq_true rfl⟩
abbrev mCt_believers : MT := (2, ⟨"EveryonesThirdWord$Court", "believers", "()I"⟩, prog_4_method_16_code, 3, (some FieldType.int))
set_option maxRecDepth 100000 in
theorem kCt_believers : MOK mCt_believers := ⟨wi 4 154 rfl rfl, wi 1 2 rfl rfl, by decide +kernel, rfl, by decide +kernel, by decide +kernel, Nat.le_of_ble_eq_true rfl⟩
abbrev mM_init : MT := (8, ⟨"EveryonesThirdWordModel", "<init>", "()V"⟩, prog_10_method_1_code, 2, none)
set_option maxRecDepth 100000 in
theorem kM_init : MOK mM_init := ⟨wi 4 159 rfl rfl, wi 1 9 rfl rfl, by decide +kernel, rfl, by decide +kernel, by decide +kernel, Nat.le_of_ble_eq_true rfl⟩
abbrev mM_row : MT := (8, ⟨"EveryonesThirdWordModel", "row", "(III)I"⟩, prog_10_method_10_code, 5, (some FieldType.int))
set_option maxRecDepth 100000 in
theorem kM_row : MOK mM_row := ⟨wi 5 3 rfl rfl, wi 1 9 rfl rfl, by decide +kernel, rfl, by decide +kernel, by decide +kernel, Nat.le_of_ble_eq_true rfl⟩
abbrev mM_within : MT := (8, ⟨"EveryonesThirdWordModel", "within", "(III)Z"⟩, prog_10_method_4_code, 3, (some FieldType.boolean))
set_option maxRecDepth 100000 in
theorem kM_within : MOK mM_within := ⟨wi 5 6 rfl rfl, wi 1 9 rfl rfl, by decide +kernel, rfl, by decide +kernel, by decide +kernel, Nat.le_of_ble_eq_true rfl⟩
abbrev mM_no : MT := (8, ⟨"EveryonesThirdWordModel", "no", "(I)I"⟩, prog_10_method_2_code, 2, (some FieldType.int))
set_option maxRecDepth 100000 in
theorem kM_no : MOK mM_no := ⟨wi 5 10 rfl rfl, wi 1 9 rfl rfl, by decide +kernel, rfl, by decide +kernel, by decide +kernel, Nat.le_of_ble_eq_true rfl⟩
abbrev mM_set : MT := (8, ⟨"EveryonesThirdWordModel", "set", "(IIJ)I"⟩, prog_10_method_12_code, 7, (some FieldType.int))
set_option maxRecDepth 100000 in
theorem kM_set : MOK mM_set := ⟨wi 5 14 rfl rfl, wi 1 9 rfl rfl, by decide +kernel, rfl, by decide +kernel, by decide +kernel, Nat.le_of_ble_eq_true rfl⟩
abbrev mM_noRow : MT := (8, ⟨"EveryonesThirdWordModel", "noRow", "(I)I"⟩, prog_10_method_11_code, 2, (some FieldType.int))
set_option maxRecDepth 100000 in
theorem kM_noRow : MOK mM_noRow := ⟨wi 5 18 rfl rfl, wi 1 9 rfl rfl, by decide +kernel, rfl, by decide +kernel, by decide +kernel, Nat.le_of_ble_eq_true rfl⟩
abbrev mM_isRow : MT := (8, ⟨"EveryonesThirdWordModel", "isRow", "(I)Z"⟩, prog_10_method_9_code, 2, (some FieldType.boolean))
set_option maxRecDepth 100000 in
theorem kM_isRow : MOK mM_isRow := ⟨wi 5 22 rfl rfl, wi 1 9 rfl rfl, by decide +kernel, rfl, by decide +kernel, by decide +kernel, Nat.le_of_ble_eq_true rfl⟩
abbrev mM_copy : MT := (8, ⟨"EveryonesThirdWordModel", "copy", "(IIIII)I"⟩, prog_10_method_13_code, 7, (some FieldType.int))
set_option maxRecDepth 100000 in
theorem kM_copy : MOK mM_copy := ⟨wi 5 26 rfl rfl, wi 1 9 rfl rfl, by decide +kernel, rfl, by decide +kernel, by decide +kernel, Nat.le_of_ble_eq_true rfl⟩
abbrev mM_element : MT := (8, ⟨"EveryonesThirdWordModel", "element", "(II)J"⟩, prog_10_method_14_code, 3, (some FieldType.long))
set_option maxRecDepth 100000 in
theorem kM_element : MOK mM_element := ⟨wi 5 30 rfl rfl, wi 1 9 rfl rfl, by decide +kernel, rfl, by decide +kernel, by decide +kernel, Nat.le_of_ble_eq_true rfl⟩
abbrev mM_show : MT := (8, ⟨"EveryonesThirdWordModel", "show", "(II)I"⟩, prog_10_method_15_code, 3, (some FieldType.int))
set_option maxRecDepth 100000 in
theorem kM_show : MOK mM_show := ⟨wi 5 34 rfl rfl, wi 1 9 rfl rfl, by decide +kernel, rfl, by decide +kernel, by decide +kernel, Nat.le_of_ble_eq_true rfl⟩
abbrev mM_isMan : MT := (8, ⟨"EveryonesThirdWordModel", "isMan", "(I)Z"⟩, prog_10_method_6_code, 2, (some FieldType.boolean))
set_option maxRecDepth 100000 in
theorem kM_isMan : MOK mM_isMan := ⟨wi 5 38 rfl rfl, wi 1 9 rfl rfl, by decide +kernel, rfl, by decide +kernel, by decide +kernel, Nat.le_of_ble_eq_true rfl⟩
abbrev mM_holds : MT := (8, ⟨"EveryonesThirdWordModel", "holds", "(I)I"⟩, prog_10_method_16_code, 2, (some FieldType.int))
set_option maxRecDepth 100000 in
theorem kM_holds : MOK mM_holds := ⟨wi 5 42 rfl rfl, wi 1 9 rfl rfl, by decide +kernel, rfl, by decide +kernel, by decide +kernel, Nat.le_of_ble_eq_true rfl⟩
abbrev mM_says : MT := (8, ⟨"EveryonesThirdWordModel", "says", "(II)I"⟩, prog_10_method_19_code, 6, (some FieldType.int))
set_option maxRecDepth 100000 in
theorem kM_says : MOK mM_says := ⟨wi 5 46 rfl rfl, wi 1 9 rfl rfl, by decide +kernel, rfl, by decide +kernel, by decide +kernel, Nat.le_of_ble_eq_true rfl⟩
abbrev mM_isUnder : MT := (8, ⟨"EveryonesThirdWordModel", "isUnder", "(II)Z"⟩, prog_10_method_18_code, 3, (some FieldType.boolean))
set_option maxRecDepth 100000 in
theorem kM_isUnder : MOK mM_isUnder := ⟨wi 5 49 rfl rfl, wi 1 9 rfl rfl, by decide +kernel, rfl, by decide +kernel, by decide +kernel, Nat.le_of_ble_eq_true rfl⟩
abbrev mM_above : MT := (8, ⟨"EveryonesThirdWordModel", "above", "(I)I"⟩, prog_10_method_17_code, 1, (some FieldType.int))
set_option maxRecDepth 100000 in
theorem kM_above : MOK mM_above := ⟨wi 5 52 rfl rfl, wi 1 9 rfl rfl, by decide +kernel, rfl, by decide +kernel, by decide +kernel, Nat.le_of_ble_eq_true rfl⟩
abbrev mM_hisOf : MT := (8, ⟨"EveryonesThirdWordModel", "hisOf", "(I)I"⟩, prog_10_method_41_code, 2, (some FieldType.int))
set_option maxRecDepth 100000 in
theorem kM_hisOf : MOK mM_hisOf := ⟨wi 5 56 rfl rfl, wi 1 9 rfl rfl, by decide +kernel, rfl, by decide +kernel, by decide +kernel, Nat.le_of_ble_eq_true rfl⟩
abbrev mM_his : MT := (8, ⟨"EveryonesThirdWordModel", "his", "(III)I"⟩, prog_10_method_40_code, 10, (some FieldType.int))
set_option maxRecDepth 100000 in
theorem kM_his : MOK mM_his := ⟨wi 5 60 rfl rfl, wi 1 9 rfl rfl, by decide +kernel, rfl, by decide +kernel, by decide +kernel, Nat.le_of_ble_eq_true rfl⟩
abbrev mM_man : MT := (8, ⟨"EveryonesThirdWordModel", "man", "(III)I"⟩, prog_10_method_21_code, 4, (some FieldType.int))
set_option maxRecDepth 100000 in
theorem kM_man : MOK mM_man := ⟨wi 5 65 rfl rfl, wi 1 9 rfl rfl, by decide +kernel, rfl, by decide +kernel, by decide +kernel, Nat.le_of_ble_eq_true rfl⟩
abbrev mM_newMan : MT := (8, ⟨"EveryonesThirdWordModel", "newMan", "(III)I"⟩, prog_10_method_20_code, 5, (some FieldType.int))
set_option maxRecDepth 100000 in
theorem kM_newMan : MOK mM_newMan := ⟨wi 5 69 rfl rfl, wi 1 9 rfl rfl, by decide +kernel, rfl, by decide +kernel, by decide +kernel, Nat.le_of_ble_eq_true rfl⟩
abbrev mM_manOf : MT := (8, ⟨"EveryonesThirdWordModel", "manOf", "(II)I"⟩, prog_10_method_22_code, 3, (some FieldType.int))
set_option maxRecDepth 100000 in
theorem kM_manOf : MOK mM_manOf := ⟨wi 5 73 rfl rfl, wi 1 9 rfl rfl, by decide +kernel, rfl, by decide +kernel, by decide +kernel, Nat.le_of_ble_eq_true rfl⟩
abbrev mM_meet : MT := (8, ⟨"EveryonesThirdWordModel", "meet", "(IIZ)I"⟩, prog_10_method_24_code, 5, (some FieldType.int))
set_option maxRecDepth 100000 in
theorem kM_meet : MOK mM_meet := ⟨wi 5 77 rfl rfl, wi 1 9 rfl rfl, by decide +kernel, rfl, by decide +kernel, by decide +kernel, Nat.le_of_ble_eq_true rfl⟩
abbrev mM_has : MT := (8, ⟨"EveryonesThirdWordModel", "has", "(II)Z"⟩, prog_10_method_5_code, 2, (some FieldType.boolean))
set_option maxRecDepth 100000 in
theorem kM_has : MOK mM_has := ⟨wi 5 80 rfl rfl, wi 1 9 rfl rfl, by decide +kernel, rfl, by decide +kernel, by decide +kernel, Nat.le_of_ble_eq_true rfl⟩
abbrev mM_meeting : MT := (8, ⟨"EveryonesThirdWordModel", "meeting", "(IIZ)V"⟩, prog_10_method_23_code, 4, none)
set_option maxRecDepth 100000 in
theorem kM_meeting : MOK mM_meeting := ⟨wi 5 84 rfl rfl, wi 1 9 rfl rfl, by decide +kernel, rfl, by decide +kernel, by decide +kernel, Nat.le_of_ble_eq_true rfl⟩
abbrev mM_say : MT := (8, ⟨"EveryonesThirdWordModel", "say", "(II)I"⟩, prog_10_method_28_code, 5, (some FieldType.int))
set_option maxRecDepth 100000 in
theorem kM_say : MOK mM_say := ⟨wi 5 88 rfl rfl, wi 1 9 rfl rfl, by decide +kernel, rfl, by decide +kernel, by decide +kernel, Nat.le_of_ble_eq_true rfl⟩
abbrev mM_noSaying : MT := (8, ⟨"EveryonesThirdWordModel", "noSaying", "(II)I"⟩, prog_10_method_26_code, 4, (some FieldType.int))
set_option maxRecDepth 100000 in
theorem kM_noSaying : MOK mM_noSaying := ⟨wi 5 92 rfl rfl, wi 1 9 rfl rfl, by decide +kernel, rfl, by decide +kernel, by decide +kernel, Nat.le_of_ble_eq_true rfl⟩
abbrev mM_wrong : MT := (8, ⟨"EveryonesThirdWordModel", "wrong", "(II)I"⟩, prog_10_method_27_code, 4, (some FieldType.int))
set_option maxRecDepth 100000 in
theorem kM_wrong : MOK mM_wrong := ⟨wi 5 96 rfl rfl, wi 1 9 rfl rfl, by decide +kernel, rfl, by decide +kernel, by decide +kernel, Nat.le_of_ble_eq_true rfl⟩
abbrev mM_told : MT := (8, ⟨"EveryonesThirdWordModel", "told", "(II)I"⟩, prog_10_method_25_code, 3, (some FieldType.int))
set_option maxRecDepth 100000 in
theorem kM_told : MOK mM_told := ⟨wi 5 100 rfl rfl, wi 1 9 rfl rfl, by decide +kernel, rfl, by decide +kernel, by decide +kernel, Nat.le_of_ble_eq_true rfl⟩
abbrev mM_isWord : MT := (8, ⟨"EveryonesThirdWordModel", "isWord", "(I)Z"⟩, prog_10_method_7_code, 1, (some FieldType.boolean))
set_option maxRecDepth 100000 in
theorem kM_isWord : MOK mM_isWord := ⟨wi 5 103 rfl rfl, wi 1 9 rfl rfl, by decide +kernel, rfl, by decide +kernel, by decide +kernel, Nat.le_of_ble_eq_true rfl⟩
abbrev mM_word : MT := (8, ⟨"EveryonesThirdWordModel", "word", "(I)I"⟩, prog_10_method_29_code, 2, (some FieldType.int))
set_option maxRecDepth 100000 in
theorem kM_word : MOK mM_word := ⟨wi 5 107 rfl rfl, wi 1 9 rfl rfl, by decide +kernel, rfl, by decide +kernel, by decide +kernel, Nat.le_of_ble_eq_true rfl⟩
abbrev mM_court : MT := (8, ⟨"EveryonesThirdWordModel", "court", "(I)I"⟩, prog_10_method_38_code, 5, (some FieldType.int))
set_option maxRecDepth 100000 in
theorem kM_court : MOK mM_court := ⟨wi 5 111 rfl rfl, wi 1 9 rfl rfl, by decide +kernel, rfl, by decide +kernel, by decide +kernel, Nat.le_of_ble_eq_true rfl⟩
abbrev mM_keep : MT := (8, ⟨"EveryonesThirdWordModel", "keep", "([I)V"⟩, prog_10_method_88_code, 3, none)
set_option maxRecDepth 100000 in
theorem kM_keep : MOK mM_keep := ⟨wi 5 115 rfl rfl, wi 1 9 rfl rfl, by decide +kernel, rfl, by decide +kernel, by decide +kernel, Nat.le_of_ble_eq_true rfl⟩
abbrev mM_item : MT := (8, ⟨"EveryonesThirdWordModel", "item", "()Z"⟩, prog_10_method_36_code, 1, (some FieldType.boolean))
set_option maxRecDepth 100000 in
theorem kM_item : MOK mM_item := ⟨wi 5 119 rfl rfl, wi 1 9 rfl rfl, by decide +kernel, rfl, by decide +kernel, by decide +kernel, Nat.le_of_ble_eq_true rfl⟩
abbrev mM_sign : MT := (8, ⟨"EveryonesThirdWordModel", "sign", "()I"⟩, prog_10_method_30_code, 1, (some FieldType.int))
set_option maxRecDepth 100000 in
theorem kM_sign : MOK mM_sign := ⟨wi 5 123 rfl rfl, wi 1 9 rfl rfl, by decide +kernel, rfl, by decide +kernel, by decide +kernel, Nat.le_of_ble_eq_true rfl⟩
abbrev mM_word_2 : MT := (8, ⟨"EveryonesThirdWordModel", "word", "(Ljava/lang/String;)Z"⟩, prog_10_method_32_code, 3, (some FieldType.boolean))
set_option maxRecDepth 100000 in
theorem kM_word_2 : MOK mM_word_2 := ⟨wi 5 128 rfl rfl, wi 1 9 rfl rfl, by decide +kernel, rfl, by decide +kernel, by decide +kernel, Nat.le_of_ble_eq_true rfl⟩
abbrev mM_is : MT := (8, ⟨"EveryonesThirdWordModel", "is", "(C)Z"⟩, prog_10_method_31_code, 2, (some FieldType.boolean))
set_option maxRecDepth 100000 in
theorem kM_is : MOK mM_is := ⟨wi 5 134 rfl rfl, wi 1 9 rfl rfl, by decide +kernel, rfl, by decide +kernel, by decide +kernel, Nat.le_of_ble_eq_true rfl⟩
abbrev mM_two : MT := (8, ⟨"EveryonesThirdWordModel", "two", "(Z)Z"⟩, prog_10_method_37_code, 3, (some FieldType.boolean))
set_option maxRecDepth 100000 in
theorem kM_two : MOK mM_two := ⟨wi 5 138 rfl rfl, wi 1 9 rfl rfl, by decide +kernel, rfl, by decide +kernel, by decide +kernel, Nat.le_of_ble_eq_true rfl⟩
abbrev mM_number : MT := (8, ⟨"EveryonesThirdWordModel", "number", "(III)Z"⟩, prog_10_method_34_code, 7, (some FieldType.boolean))
set_option maxRecDepth 100000 in
theorem kM_number : MOK mM_number := ⟨wi 5 142 rfl rfl, wi 1 9 rfl rfl, by decide +kernel, rfl, by decide +kernel, by decide +kernel, Nat.le_of_ble_eq_true rfl⟩
abbrev mM_stands : MT := (8, ⟨"EveryonesThirdWordModel", "stands", "(IZ)Z"⟩, prog_10_method_35_code, 3, (some FieldType.boolean))
set_option maxRecDepth 100000 in
theorem kM_stands : MOK mM_stands := ⟨wi 5 146 rfl rfl, wi 1 9 rfl rfl, by decide +kernel, rfl, by decide +kernel, by decide +kernel, Nat.le_of_ble_eq_true rfl⟩
abbrev mM_word_3 : MT := (8, ⟨"EveryonesThirdWordModel", "word", "(Ljava/lang/String;Z)Z"⟩, prog_10_method_33_code, 5, (some FieldType.boolean))
set_option maxRecDepth 100000 in
theorem kM_word_3 : MOK mM_word_3 := ⟨wi 5 151 rfl rfl, wi 1 9 rfl rfl, by decide +kernel, rfl, by decide +kernel, by decide +kernel, Nat.le_of_ble_eq_true rfl⟩
abbrev mM_again : MT := (8, ⟨"EveryonesThirdWordModel", "again", "([I)V"⟩, prog_10_method_89_code, 3, none)
set_option maxRecDepth 100000 in
theorem kM_again : MOK mM_again := ⟨wi 5 158 rfl rfl, wi 1 9 rfl rfl, by decide +kernel, rfl, by decide +kernel, by decide +kernel, Nat.le_of_ble_eq_true rfl⟩
abbrev mM_fault : MT := (8, ⟨"EveryonesThirdWordModel", "fault", "()I"⟩, prog_10_method_39_code, 1, (some FieldType.int))
set_option maxRecDepth 100000 in
theorem kM_fault : MOK mM_fault := ⟨wi 5 162 rfl rfl, wi 1 9 rfl rfl, by decide +kernel, rfl, by decide +kernel, by decide +kernel, Nat.le_of_ble_eq_true rfl⟩
abbrev mM_hears : MT := (8, ⟨"EveryonesThirdWordModel", "hears", "(II)I"⟩, prog_10_method_46_code, 3, (some FieldType.int))
set_option maxRecDepth 100000 in
theorem kM_hears : MOK mM_hears := ⟨wi 5 166 rfl rfl, wi 1 9 rfl rfl, by decide +kernel, rfl, by decide +kernel, by decide +kernel, Nat.le_of_ble_eq_true rfl⟩
abbrev mM_sense : MT := (8, ⟨"EveryonesThirdWordModel", "sense", "(II)I"⟩, prog_10_method_47_code, 3, (some FieldType.int))
set_option maxRecDepth 100000 in
theorem kM_sense : MOK mM_sense := ⟨wi 5 170 rfl rfl, wi 1 9 rfl rfl, by decide +kernel, rfl, by decide +kernel, by decide +kernel, Nat.le_of_ble_eq_true rfl⟩
abbrev mM_no10 : MT := (8, ⟨"EveryonesThirdWordModel", "no10", "(I)I"⟩, prog_10_method_3_code, 2, (some FieldType.int))
set_option maxRecDepth 100000 in
theorem kM_no10 : MOK mM_no10 := ⟨wi 5 174 rfl rfl, wi 1 9 rfl rfl, by decide +kernel, rfl, by decide +kernel, by decide +kernel, Nat.le_of_ble_eq_true rfl⟩
abbrev mM_isRounds : MT := (8, ⟨"EveryonesThirdWordModel", "isRounds", "(I)Z"⟩, prog_10_method_8_code, 1, (some FieldType.boolean))
set_option maxRecDepth 100000 in
theorem kM_isRounds : MOK mM_isRounds := ⟨wi 5 177 rfl rfl, wi 1 9 rfl rfl, by decide +kernel, rfl, by decide +kernel, by decide +kernel, Nat.le_of_ble_eq_true rfl⟩
abbrev mM_goOn : MT := (8, ⟨"EveryonesThirdWordModel", "goOn", "(I)V"⟩, prog_10_method_44_code, 3, none)
set_option maxRecDepth 100000 in
theorem kM_goOn : MOK mM_goOn := ⟨wi 5 181 rfl rfl, wi 1 9 rfl rfl, by decide +kernel, rfl, by decide +kernel, by decide +kernel, Nat.le_of_ble_eq_true rfl⟩
abbrev mM_round : MT := (8, ⟨"EveryonesThirdWordModel", "round", "()V"⟩, prog_10_method_45_code, 3, none)
set_option maxRecDepth 100000 in
theorem kM_round : MOK mM_round := ⟨wi 5 185 rfl rfl, wi 1 9 rfl rfl, by decide +kernel, rfl, by decide +kernel, by decide +kernel, Nat.le_of_ble_eq_true rfl⟩
abbrev mM_senseOf : MT := (8, ⟨"EveryonesThirdWordModel", "senseOf", "(I)I"⟩, prog_10_method_42_code, 8, (some FieldType.int))
set_option maxRecDepth 100000 in
theorem kM_senseOf : MOK mM_senseOf := ⟨wi 5 189 rfl rfl, wi 1 9 rfl rfl, by decide +kernel, rfl, by decide +kernel, by decide +kernel, Nat.le_of_ble_eq_true rfl⟩
abbrev mM_whole : MT := (8, ⟨"EveryonesThirdWordModel", "whole", "()I"⟩, prog_10_method_48_code, 1, (some FieldType.int))
set_option maxRecDepth 100000 in
theorem kM_whole : MOK mM_whole := ⟨wi 5 193 rfl rfl, wi 1 9 rfl rfl, by decide +kernel, rfl, by decide +kernel, by decide +kernel, Nat.le_of_ble_eq_true rfl⟩
abbrev mM_wholeOf : MT := (8, ⟨"EveryonesThirdWordModel", "wholeOf", "()I"⟩, prog_10_method_43_code, 1, (some FieldType.int))
set_option maxRecDepth 100000 in
theorem kM_wholeOf : MOK mM_wholeOf := ⟨wi 5 197 rfl rfl, wi 1 9 rfl rfl, by decide +kernel, rfl, by decide +kernel, by decide +kernel, Nat.le_of_ble_eq_true rfl⟩
abbrev mM_known : MT := (8, ⟨"EveryonesThirdWordModel", "known", "(II)I"⟩, prog_10_method_49_code, 3, (some FieldType.int))
set_option maxRecDepth 100000 in
theorem kM_known : MOK mM_known := ⟨wi 5 201 rfl rfl, wi 1 9 rfl rfl, by decide +kernel, rfl, by decide +kernel, by decide +kernel, Nat.le_of_ble_eq_true rfl⟩
abbrev mM_belief : MT := (8, ⟨"EveryonesThirdWordModel", "belief", "(I)I"⟩, prog_10_method_50_code, 2, (some FieldType.int))
set_option maxRecDepth 100000 in
theorem kM_belief : MOK mM_belief := ⟨wi 5 205 rfl rfl, wi 1 9 rfl rfl, by decide +kernel, rfl, by decide +kernel, by decide +kernel, Nat.le_of_ble_eq_true rfl⟩
abbrev mM_together : MT := (8, ⟨"EveryonesThirdWordModel", "together", "(II)I"⟩, prog_10_method_54_code, 4, (some FieldType.int))
set_option maxRecDepth 100000 in
theorem kM_together : MOK mM_together := ⟨wi 5 209 rfl rfl, wi 1 9 rfl rfl, by decide +kernel, rfl, by decide +kernel, by decide +kernel, Nat.le_of_ble_eq_true rfl⟩
abbrev mM_isSet : MT := (8, ⟨"EveryonesThirdWordModel", "isSet", "(I)Z"⟩, prog_10_method_51_code, 2, (some FieldType.boolean))
set_option maxRecDepth 100000 in
theorem kM_isSet : MOK mM_isSet := ⟨wi 5 213 rfl rfl, wi 1 9 rfl rfl, by decide +kernel, rfl, by decide +kernel, by decide +kernel, Nat.le_of_ble_eq_true rfl⟩
abbrev mM_heardBy : MT := (8, ⟨"EveryonesThirdWordModel", "heardBy", "(I)I"⟩, prog_10_method_52_code, 4, (some FieldType.int))
set_option maxRecDepth 100000 in
theorem kM_heardBy : MOK mM_heardBy := ⟨wi 5 217 rfl rfl, wi 1 9 rfl rfl, by decide +kernel, rfl, by decide +kernel, by decide +kernel, Nat.le_of_ble_eq_true rfl⟩
abbrev mM_isSure : MT := (8, ⟨"EveryonesThirdWordModel", "isSure", "(I)Z"⟩, prog_10_method_53_code, 6, (some FieldType.boolean))
set_option maxRecDepth 100000 in
theorem kM_isSure : MOK mM_isSure := ⟨wi 5 221 rfl rfl, wi 1 9 rfl rfl, by decide +kernel, rfl, by decide +kernel, by decide +kernel, Nat.le_of_ble_eq_true rfl⟩
abbrev mM_cover : MT := (8, ⟨"EveryonesThirdWordModel", "cover", "()I"⟩, prog_10_method_56_code, 3, (some FieldType.int))
set_option maxRecDepth 100000 in
theorem kM_cover : MOK mM_cover := ⟨wi 5 225 rfl rfl, wi 1 9 rfl rfl, by decide +kernel, rfl, by decide +kernel, by decide +kernel, Nat.le_of_ble_eq_true rfl⟩
abbrev mM_isBetter : MT := (8, ⟨"EveryonesThirdWordModel", "isBetter", "(II)Z"⟩, prog_10_method_55_code, 2, (some FieldType.boolean))
set_option maxRecDepth 100000 in
theorem kM_isBetter : MOK mM_isBetter := ⟨wi 5 228 rfl rfl, wi 1 9 rfl rfl, by decide +kernel, rfl, by decide +kernel, by decide +kernel, Nat.le_of_ble_eq_true rfl⟩
abbrev mM_ask : MT := (8, ⟨"EveryonesThirdWordModel", "ask", "(I)I"⟩, prog_10_method_57_code, 7, (some FieldType.int))
set_option maxRecDepth 100000 in
theorem kM_ask : MOK mM_ask := ⟨wi 5 232 rfl rfl, wi 1 9 rfl rfl, by decide +kernel, rfl, by decide +kernel, by decide +kernel, Nat.le_of_ble_eq_true rfl⟩
abbrev mM_soon : MT := (8, ⟨"EveryonesThirdWordModel", "soon", "(I)I"⟩, prog_10_method_59_code, 2, (some FieldType.int))
set_option maxRecDepth 100000 in
theorem kM_soon : MOK mM_soon := ⟨wi 5 236 rfl rfl, wi 1 9 rfl rfl, by decide +kernel, rfl, by decide +kernel, by decide +kernel, Nat.le_of_ble_eq_true rfl⟩
abbrev mM_soonOf : MT := (8, ⟨"EveryonesThirdWordModel", "soonOf", "(I)I"⟩, prog_10_method_58_code, 4, (some FieldType.int))
set_option maxRecDepth 100000 in
theorem kM_soonOf : MOK mM_soonOf := ⟨wi 6 0 rfl rfl, wi 1 9 rfl rfl, by decide +kernel, rfl, by decide +kernel, by decide +kernel, Nat.le_of_ble_eq_true rfl⟩
abbrev mM_wrongOnes : MT := (8, ⟨"EveryonesThirdWordModel", "wrongOnes", "(I)I"⟩, prog_10_method_60_code, 5, (some FieldType.int))
set_option maxRecDepth 100000 in
theorem kM_wrongOnes : MOK mM_wrongOnes := ⟨wi 6 4 rfl rfl, wi 1 9 rfl rfl, by decide +kernel, rfl, by decide +kernel, by decide +kernel, Nat.le_of_ble_eq_true rfl⟩
abbrev mM_apart : MT := (8, ⟨"EveryonesThirdWordModel", "apart", "(I)I"⟩, prog_10_method_61_code, 5, (some FieldType.int))
set_option maxRecDepth 100000 in
theorem kM_apart : MOK mM_apart := ⟨wi 6 8 rfl rfl, wi 1 9 rfl rfl, by decide +kernel, rfl, by decide +kernel, by decide +kernel, Nat.le_of_ble_eq_true rfl⟩
abbrev mM_lose : MT := (8, ⟨"EveryonesThirdWordModel", "lose", "()I"⟩, prog_10_method_63_code, 6, (some FieldType.int))
set_option maxRecDepth 100000 in
theorem kM_lose : MOK mM_lose := ⟨wi 6 12 rfl rfl, wi 1 9 rfl rfl, by decide +kernel, rfl, by decide +kernel, by decide +kernel, Nat.le_of_ble_eq_true rfl⟩
abbrev mM_haveIt : MT := (8, ⟨"EveryonesThirdWordModel", "haveIt", "()I"⟩, prog_10_method_62_code, 4, (some FieldType.int))
set_option maxRecDepth 100000 in
theorem kM_haveIt : MOK mM_haveIt := ⟨wi 6 16 rfl rfl, wi 1 9 rfl rfl, by decide +kernel, rfl, by decide +kernel, by decide +kernel, Nat.le_of_ble_eq_true rfl⟩
abbrev mM_speak : MT := (8, ⟨"EveryonesThirdWordModel", "speak", "(IIII)I"⟩, prog_10_method_66_code, 6, (some FieldType.int))
set_option maxRecDepth 100000 in
theorem kM_speak : MOK mM_speak := ⟨wi 6 20 rfl rfl, wi 1 9 rfl rfl, by decide +kernel, rfl, by decide +kernel, by decide +kernel, Nat.le_of_ble_eq_true rfl⟩
abbrev mM_isSense : MT := (8, ⟨"EveryonesThirdWordModel", "isSense", "(I)Z"⟩, prog_10_method_64_code, 1, (some FieldType.boolean))
set_option maxRecDepth 100000 in
theorem kM_isSense : MOK mM_isSense := ⟨wi 6 23 rfl rfl, wi 1 9 rfl rfl, by decide +kernel, rfl, by decide +kernel, by decide +kernel, Nat.le_of_ble_eq_true rfl⟩
abbrev mM_speaks : MT := (8, ⟨"EveryonesThirdWordModel", "speaks", "(II)I"⟩, prog_10_method_65_code, 4, (some FieldType.int))
set_option maxRecDepth 100000 in
theorem kM_speaks : MOK mM_speaks := ⟨wi 6 27 rfl rfl, wi 1 9 rfl rfl, by decide +kernel, rfl, by decide +kernel, by decide +kernel, Nat.le_of_ble_eq_true rfl⟩
abbrev mM_needs : MT := (8, ⟨"EveryonesThirdWordModel", "needs", "(I)I"⟩, prog_10_method_68_code, 5, (some FieldType.int))
set_option maxRecDepth 100000 in
theorem kM_needs : MOK mM_needs := ⟨wi 6 32 rfl rfl, wi 1 9 rfl rfl, by decide +kernel, rfl, by decide +kernel, by decide +kernel, Nat.le_of_ble_eq_true rfl⟩
abbrev mM_wanted : MT := (8, ⟨"EveryonesThirdWordModel", "wanted", "(II)I"⟩, prog_10_method_67_code, 7, (some FieldType.int))
set_option maxRecDepth 100000 in
theorem kM_wanted : MOK mM_wanted := ⟨wi 6 36 rfl rfl, wi 1 9 rfl rfl, by decide +kernel, rfl, by decide +kernel, by decide +kernel, Nat.le_of_ble_eq_true rfl⟩
abbrev mM_count : MT := (8, ⟨"EveryonesThirdWordModel", "count", "(II)I"⟩, prog_10_method_70_code, 8, (some FieldType.int))
set_option maxRecDepth 100000 in
theorem kM_count : MOK mM_count := ⟨wi 6 40 rfl rfl, wi 1 9 rfl rfl, by decide +kernel, rfl, by decide +kernel, by decide +kernel, Nat.le_of_ble_eq_true rfl⟩
abbrev mM_isHeard : MT := (8, ⟨"EveryonesThirdWordModel", "isHeard", "(II)Z"⟩, prog_10_method_69_code, 5, (some FieldType.boolean))
set_option maxRecDepth 100000 in
theorem kM_isHeard : MOK mM_isHeard := ⟨wi 6 44 rfl rfl, wi 1 9 rfl rfl, by decide +kernel, rfl, by decide +kernel, by decide +kernel, Nat.le_of_ble_eq_true rfl⟩
abbrev mM_could : MT := (8, ⟨"EveryonesThirdWordModel", "could", "(I)I"⟩, prog_10_method_71_code, 5, (some FieldType.int))
set_option maxRecDepth 100000 in
theorem kM_could : MOK mM_could := ⟨wi 6 48 rfl rfl, wi 1 9 rfl rfl, by decide +kernel, rfl, by decide +kernel, by decide +kernel, Nat.le_of_ble_eq_true rfl⟩
abbrev mM_swap : MT := (8, ⟨"EveryonesThirdWordModel", "swap", "()I"⟩, prog_10_method_74_code, 6, (some FieldType.int))
set_option maxRecDepth 100000 in
theorem kM_swap : MOK mM_swap := ⟨wi 6 52 rfl rfl, wi 1 9 rfl rfl, by decide +kernel, rfl, by decide +kernel, by decide +kernel, Nat.le_of_ble_eq_true rfl⟩
abbrev mM_senses : MT := (8, ⟨"EveryonesThirdWordModel", "senses", "()I"⟩, prog_10_method_72_code, 3, (some FieldType.int))
set_option maxRecDepth 100000 in
theorem kM_senses : MOK mM_senses := ⟨wi 6 56 rfl rfl, wi 1 9 rfl rfl, by decide +kernel, rfl, by decide +kernel, by decide +kernel, Nat.le_of_ble_eq_true rfl⟩
abbrev mM_change : MT := (8, ⟨"EveryonesThirdWordModel", "change", "(II)V"⟩, prog_10_method_73_code, 4, none)
set_option maxRecDepth 100000 in
theorem kM_change : MOK mM_change := ⟨wi 6 60 rfl rfl, wi 1 9 rfl rfl, by decide +kernel, rfl, by decide +kernel, by decide +kernel, Nat.le_of_ble_eq_true rfl⟩
abbrev mM_judge : MT := (8, ⟨"EveryonesThirdWordModel", "judge", "(II)I"⟩, prog_10_method_75_code, 4, (some FieldType.int))
set_option maxRecDepth 100000 in
theorem kM_judge : MOK mM_judge := ⟨wi 6 64 rfl rfl, wi 1 9 rfl rfl, by decide +kernel, rfl, by decide +kernel, by decide +kernel, Nat.le_of_ble_eq_true rfl⟩
abbrev mM_would : MT := (8, ⟨"EveryonesThirdWordModel", "would", "(III)I"⟩, prog_10_method_76_code, 6, (some FieldType.int))
set_option maxRecDepth 100000 in
theorem kM_would : MOK mM_would := ⟨wi 6 68 rfl rfl, wi 1 9 rfl rfl, by decide +kernel, rfl, by decide +kernel, by decide +kernel, Nat.le_of_ble_eq_true rfl⟩
abbrev mM_audience : MT := (8, ⟨"EveryonesThirdWordModel", "audience", "(I)I"⟩, prog_10_method_78_code, 2, (some FieldType.int))
set_option maxRecDepth 100000 in
theorem kM_audience : MOK mM_audience := ⟨wi 6 72 rfl rfl, wi 1 9 rfl rfl, by decide +kernel, rfl, by decide +kernel, by decide +kernel, Nat.le_of_ble_eq_true rfl⟩
abbrev mM_heard : MT := (8, ⟨"EveryonesThirdWordModel", "heard", "(I)I"⟩, prog_10_method_77_code, 6, (some FieldType.int))
set_option maxRecDepth 100000 in
theorem kM_heard : MOK mM_heard := ⟨wi 6 76 rfl rfl, wi 1 9 rfl rfl, by decide +kernel, rfl, by decide +kernel, by decide +kernel, Nat.le_of_ble_eq_true rfl⟩
abbrev mM_reign : MT := (8, ⟨"EveryonesThirdWordModel", "reign", "(I)I"⟩, prog_10_method_80_code, 5, (some FieldType.int))
set_option maxRecDepth 100000 in
theorem kM_reign : MOK mM_reign := ⟨wi 6 80 rfl rfl, wi 1 9 rfl rfl, by decide +kernel, rfl, by decide +kernel, by decide +kernel, Nat.le_of_ble_eq_true rfl⟩
abbrev mM_draw : MT := (8, ⟨"EveryonesThirdWordModel", "draw", "(I)I"⟩, prog_10_method_79_code, 2, (some FieldType.int))
set_option maxRecDepth 100000 in
theorem kM_draw : MOK mM_draw := ⟨wi 6 84 rfl rfl, wi 1 9 rfl rfl, by decide +kernel, rfl, by decide +kernel, by decide +kernel, Nat.le_of_ble_eq_true rfl⟩
abbrev mM_seed : MT := (8, ⟨"EveryonesThirdWordModel", "seed", "(I)I"⟩, prog_10_method_81_code, 3, (some FieldType.int))
set_option maxRecDepth 100000 in
theorem kM_seed : MOK mM_seed := ⟨wi 6 89 rfl rfl, wi 1 9 rfl rfl, by decide +kernel, rfl, by decide +kernel, by decide +kernel, Nat.le_of_ble_eq_true rfl⟩
abbrev mM_act : MT := (8, ⟨"EveryonesThirdWordModel", "act", "(III)I"⟩, prog_10_method_86_code, 4, (some FieldType.int))
set_option maxRecDepth 100000 in
theorem kM_act : MOK mM_act := ⟨wi 6 93 rfl rfl, wi 1 9 rfl rfl, by decide +kernel, rfl, by decide +kernel, by decide +kernel, Nat.le_of_ble_eq_true rfl⟩
abbrev mM_hearsBy : MT := (8, ⟨"EveryonesThirdWordModel", "hearsBy", "(II)I"⟩, prog_10_method_83_code, 5, (some FieldType.int))
set_option maxRecDepth 100000 in
theorem kM_hearsBy : MOK mM_hearsBy := ⟨wi 6 97 rfl rfl, wi 1 9 rfl rfl, by decide +kernel, rfl, by decide +kernel, by decide +kernel, Nat.le_of_ble_eq_true rfl⟩
abbrev mM_ran : MT := (8, ⟨"EveryonesThirdWordModel", "ran", "(I)V"⟩, prog_10_method_82_code, 2, none)
set_option maxRecDepth 100000 in
theorem kM_ran : MOK mM_ran := ⟨wi 6 101 rfl rfl, wi 1 9 rfl rfl, by decide +kernel, rfl, by decide +kernel, by decide +kernel, Nat.le_of_ble_eq_true rfl⟩
abbrev mM_makesBy : MT := (8, ⟨"EveryonesThirdWordModel", "makesBy", "(II)I"⟩, prog_10_method_84_code, 6, (some FieldType.int))
set_option maxRecDepth 100000 in
theorem kM_makesBy : MOK mM_makesBy := ⟨wi 6 105 rfl rfl, wi 1 9 rfl rfl, by decide +kernel, rfl, by decide +kernel, by decide +kernel, Nat.le_of_ble_eq_true rfl⟩
abbrev mM_tellsBy : MT := (8, ⟨"EveryonesThirdWordModel", "tellsBy", "(II)I"⟩, prog_10_method_85_code, 6, (some FieldType.int))
set_option maxRecDepth 100000 in
theorem kM_tellsBy : MOK mM_tellsBy := ⟨wi 6 109 rfl rfl, wi 1 9 rfl rfl, by decide +kernel, rfl, by decide +kernel, by decide +kernel, Nat.le_of_ble_eq_true rfl⟩
abbrev mM_trace : MT := (8, ⟨"EveryonesThirdWordModel", "trace", "(I)I"⟩, prog_10_method_87_code, 2, (some FieldType.int))
set_option maxRecDepth 100000 in
theorem kM_trace : MOK mM_trace := ⟨wi 6 113 rfl rfl, wi 1 9 rfl rfl, by decide +kernel, rfl, by decide +kernel, by decide +kernel, Nat.le_of_ble_eq_true rfl⟩
abbrev mM_image : MT := (8, ⟨"EveryonesThirdWordModel", "image", "()I"⟩, prog_10_method_90_code, 1, (some FieldType.int))
set_option maxRecDepth 100000 in
theorem kM_image : MOK mM_image := ⟨wi 6 117 rfl rfl, wi 1 9 rfl rfl, by decide +kernel, rfl, by decide +kernel, by decide +kernel, Nat.le_of_ble_eq_true rfl⟩
abbrev mM_restore : MT := (8, ⟨"EveryonesThirdWordModel", "restore", "()I"⟩, prog_10_method_91_code, 2, (some FieldType.int))
set_option maxRecDepth 100000 in
theorem kM_restore : MOK mM_restore := ⟨wi 6 121 rfl rfl, wi 1 9 rfl rfl, by decide +kernel, rfl, by decide +kernel, by decide +kernel, Nat.le_of_ble_eq_true rfl⟩
abbrev mM_status : MT := (8, ⟨"EveryonesThirdWordModel", "status", "(I)I"⟩, prog_10_method_92_code, 4, (some FieldType.int))
set_option maxRecDepth 100000 in
theorem kM_status : MOK mM_status := ⟨wi 6 125 rfl rfl, wi 1 9 rfl rfl, by decide +kernel, rfl, by decide +kernel, by decide +kernel, Nat.le_of_ble_eq_true rfl⟩
abbrev mL_law : MT := (9, x, code, maxLocals, ret)
set_option maxRecDepth 100000 in
theorem v9_13 : IVV 9 13 mX_row := ⟨wi 1 235 rfl rfl, wi 1 236 rfl rfl, wi 1 237 rfl rfl⟩
set_option maxRecDepth 100000 in
theorem v7_66 : IVS 7 66 mX_isShelf := ⟨wi 1 239 rfl rfl, wi 2 0 rfl rfl⟩
set_option maxRecDepth 100000 in
theorem v7_70 : IVV 7 70 mX_refuse := ⟨wi 2 2 rfl rfl, wi 2 4 rfl rfl, wi 0 0 rfl rfl⟩
set_option maxRecDepth 100000 in
theorem v7_74 : IVV 7 74 mSh_takeRow := ⟨wi 2 6 rfl rfl, wi 2 7 rfl rfl, wi 2 8 rfl rfl⟩
set_option maxRecDepth 100000 in
theorem v9_20 : IVV 9 20 mX_set := ⟨wi 2 10 rfl rfl, wi 2 11 rfl rfl, wi 2 12 rfl rfl⟩
set_option maxRecDepth 100000 in
theorem v7_78 : IVV 7 78 mX_rowRefusal := ⟨wi 2 14 rfl rfl, wi 2 16 rfl rfl, wi 0 1 rfl rfl⟩
set_option maxRecDepth 100000 in
theorem v7_88 : IVV 7 88 mSh_isMan := ⟨wi 2 18 rfl rfl, wi 2 19 rfl rfl, wi 2 20 rfl rfl⟩
set_option maxRecDepth 100000 in
theorem v7_92 : IVV 7 92 mSh_isRow := ⟨wi 2 22 rfl rfl, wi 2 23 rfl rfl, wi 2 24 rfl rfl⟩
set_option maxRecDepth 100000 in
theorem v7_81 : IVV 7 81 mSh_has := ⟨wi 2 26 rfl rfl, wi 2 27 rfl rfl, wi 2 28 rfl rfl⟩
set_option maxRecDepth 100000 in
theorem v7_84 : IVV 7 84 mSh_put := ⟨wi 2 30 rfl rfl, wi 2 31 rfl rfl, wi 2 32 rfl rfl⟩
set_option maxRecDepth 100000 in
theorem v6_22 : IVV 6 22 mSh_has := ⟨wi 2 34 rfl rfl, wi 2 27 rfl rfl, wi 2 28 rfl rfl⟩
set_option maxRecDepth 100000 in
theorem v9_25 : IVV 9 25 mX_copy := ⟨wi 2 35 rfl rfl, wi 2 36 rfl rfl, wi 2 37 rfl rfl⟩
set_option maxRecDepth 100000 in
theorem v9_30 : IVV 9 30 mX_element := ⟨wi 2 42 rfl rfl, wi 2 43 rfl rfl, wi 2 44 rfl rfl⟩
set_option maxRecDepth 100000 in
theorem v9_35 : IVV 9 35 mX_show := ⟨wi 2 46 rfl rfl, wi 2 47 rfl rfl, wi 2 48 rfl rfl⟩
set_option maxRecDepth 100000 in
theorem v7_111 : IVV 7 111 mSh_takeNothing := ⟨wi 2 50 rfl rfl, wi 2 51 rfl rfl, wi 2 52 rfl rfl⟩
set_option maxRecDepth 100000 in
theorem v7_114 : IVV 7 114 mCt_isMan := ⟨wi 2 54 rfl rfl, wi 2 55 rfl rfl, wi 2 56 rfl rfl⟩
set_option maxRecDepth 100000 in
theorem v7_116 : IVV 7 116 mSh_takeMan := ⟨wi 2 58 rfl rfl, wi 2 59 rfl rfl, wi 2 60 rfl rfl⟩
set_option maxRecDepth 100000 in
theorem v9_40 : IVV 9 40 mX_holds := ⟨wi 2 62 rfl rfl, wi 2 63 rfl rfl, wi 2 64 rfl rfl⟩
set_option maxRecDepth 100000 in
theorem v9_45 : IVV 9 45 mX_says := ⟨wi 2 66 rfl rfl, wi 2 67 rfl rfl, wi 2 68 rfl rfl⟩
set_option maxRecDepth 100000 in
theorem v7_120 : IVS 7 120 mX_isKind := ⟨wi 2 70 rfl rfl, wi 2 71 rfl rfl⟩
set_option maxRecDepth 100000 in
theorem v7_132 : IVS 7 132 mX_isUnder := ⟨wi 2 73 rfl rfl, wi 2 74 rfl rfl⟩
set_option maxRecDepth 100000 in
theorem v7_139 : IVV 7 139 mMn_saysAs := ⟨wi 2 78 rfl rfl, wi 2 79 rfl rfl, wi 2 80 rfl rfl⟩
set_option maxRecDepth 100000 in
theorem v3_34 : IVV 3 34 mMn_placesOf := ⟨wi 2 82 rfl rfl, wi 2 83 rfl rfl, wi 2 84 rfl rfl⟩
set_option maxRecDepth 100000 in
theorem v3_30 : IVN 3 30 mX_placesBy := ⟨wn 2 86 rfl rfl, wi 2 87 rfl rfl⟩
set_option maxRecDepth 100000 in
theorem v7_340 : IVS 7 340 mX_thirds := ⟨wi 2 89 rfl rfl, wi 2 90 rfl rfl⟩
set_option maxRecDepth 100000 in
theorem v7_344 : IVS 7 344 mX_span := ⟨wi 2 92 rfl rfl, wi 2 93 rfl rfl⟩
set_option maxRecDepth 100000 in
theorem v7_347 : IVS 7 347 mX_missing := ⟨wi 2 98 rfl rfl, wi 2 99 rfl rfl⟩
set_option maxRecDepth 100000 in
theorem v7_350 : IVS 7 350 mX_everyOther := ⟨wi 2 101 rfl rfl, wi 2 102 rfl rfl⟩
set_option maxRecDepth 100000 in
theorem v3_38 : IVN 3 38 mX_thirds := ⟨wn 2 107 rfl rfl, wi 2 90 rfl rfl⟩
set_option maxRecDepth 100000 in
theorem v3_42 : IVS 3 42 mJI_bitCount := ⟨wi 2 108 rfl rfl, wi 2 109 rfl rfl⟩
set_option maxRecDepth 100000 in
theorem v9_49 : IVV 9 49 mX_man := ⟨wi 2 114 rfl rfl, wi 2 115 rfl rfl, wi 2 116 rfl rfl⟩
set_option maxRecDepth 100000 in
theorem v7_146 : IVV 7 146 mCt_addMan := ⟨wi 2 118 rfl rfl, wi 2 119 rfl rfl, wi 2 120 rfl rfl⟩
set_option maxRecDepth 100000 in
theorem v2_42 : IVV 2 42 mMn_begin := ⟨wi 2 122 rfl rfl, wi 2 123 rfl rfl, wi 2 124 rfl rfl⟩
set_option maxRecDepth 100000 in
theorem v9_53 : IVV 9 53 mX_manOf := ⟨wi 2 126 rfl rfl, wi 2 127 rfl rfl, wi 2 128 rfl rfl⟩
set_option maxRecDepth 100000 in
theorem v7_156 : IVV 7 156 mCt_his := ⟨wi 2 130 rfl rfl, wi 2 131 rfl rfl, wi 2 132 rfl rfl⟩
set_option maxRecDepth 100000 in
theorem v2_46 : IVV 2 46 mCt_isMan := ⟨wi 2 134 rfl rfl, wi 2 55 rfl rfl, wi 2 56 rfl rfl⟩
set_option maxRecDepth 100000 in
theorem v2_53 : IVV 2 53 mMn_placesOf := ⟨wi 2 135 rfl rfl, wi 2 83 rfl rfl, wi 2 84 rfl rfl⟩
set_option maxRecDepth 100000 in
theorem v7_159 : IVS 7 159 mJI_bitCount := ⟨wi 2 136 rfl rfl, wi 2 109 rfl rfl⟩
set_option maxRecDepth 100000 in
theorem v9_57 : IVV 9 57 mX_meet := ⟨wi 2 137 rfl rfl, wi 2 138 rfl rfl, wi 2 139 rfl rfl⟩
set_option maxRecDepth 100000 in
theorem v7_170 : IVV 7 170 mCt_doMeet := ⟨wi 2 141 rfl rfl, wi 2 142 rfl rfl, wi 2 143 rfl rfl⟩
set_option maxRecDepth 100000 in
theorem v7_173 : IVV 7 173 mCt_link := ⟨wi 2 145 rfl rfl, wi 2 146 rfl rfl, wi 2 147 rfl rfl⟩
set_option maxRecDepth 100000 in
theorem v9_62 : IVV 9 62 mX_say := ⟨wi 2 149 rfl rfl, wi 2 150 rfl rfl, wi 2 151 rfl rfl⟩
set_option maxRecDepth 100000 in
theorem v7_177 : IVV 7 177 mX_tellRefusal := ⟨wi 2 153 rfl rfl, wi 2 155 rfl rfl, wi 0 2 rfl rfl⟩
set_option maxRecDepth 100000 in
theorem v7_180 : IVV 7 180 mSh_firstWrong := ⟨wi 2 157 rfl rfl, wi 2 158 rfl rfl, wi 2 159 rfl rfl⟩
set_option maxRecDepth 100000 in
theorem v6_26 : IVV 6 26 mSh_asInt := ⟨wi 2 161 rfl rfl, wi 2 162 rfl rfl, wi 2 163 rfl rfl⟩
set_option maxRecDepth 100000 in
theorem v7_183 : IVV 7 183 mCt_hushWords := ⟨wi 2 165 rfl rfl, wi 2 166 rfl rfl, wi 2 167 rfl rfl⟩
set_option maxRecDepth 100000 in
theorem v7_186 : IVV 7 186 mSh_asInt := ⟨wi 2 169 rfl rfl, wi 2 162 rfl rfl, wi 2 163 rfl rfl⟩
set_option maxRecDepth 100000 in
theorem v7_189 : IVV 7 189 mCt_addWord := ⟨wi 2 170 rfl rfl, wi 2 171 rfl rfl, wi 2 172 rfl rfl⟩
set_option maxRecDepth 100000 in
theorem v9_66 : IVV 9 66 mX_word := ⟨wi 2 174 rfl rfl, wi 2 175 rfl rfl, wi 2 176 rfl rfl⟩
set_option maxRecDepth 100000 in
theorem v7_192 : IVV 7 192 mCt_isPlace := ⟨wi 2 178 rfl rfl, wi 2 179 rfl rfl, wi 2 180 rfl rfl⟩
set_option maxRecDepth 100000 in
theorem v9_70 : IVV 9 70 mX_court := ⟨wi 2 182 rfl rfl, wi 2 183 rfl rfl, wi 2 184 rfl rfl⟩
set_option maxRecDepth 100000 in
theorem v7_198 : IVV 7 198 mRd_readOver := ⟨wi 2 186 rfl rfl, wi 2 187 rfl rfl, wi 2 188 rfl rfl⟩
set_option maxRecDepth 100000 in
theorem v5_22 : IVV 5 22 mCt_become := ⟨wi 2 190 rfl rfl, wi 2 191 rfl rfl, wi 2 192 rfl rfl⟩
set_option maxRecDepth 100000 in
theorem v2_26 : IVV 2 26 mMn_become := ⟨wi 2 194 rfl rfl, wi 2 195 rfl rfl, wi 2 196 rfl rfl⟩
set_option maxRecDepth 100000 in
theorem v5_29 : IVV 5 29 mRd_readItem := ⟨wi 2 199 rfl rfl, wi 2 201 rfl rfl, wi 0 3 rfl rfl⟩
set_option maxRecDepth 100000 in
theorem v5_42 : IVV 5 42 mSh_asInt := ⟨wi 2 203 rfl rfl, wi 2 162 rfl rfl, wi 2 163 rfl rfl⟩
set_option maxRecDepth 100000 in
theorem v5_46 : IVS 5 46 mRd_itemBy := ⟨wi 2 204 rfl rfl, wi 2 205 rfl rfl⟩
set_option maxRecDepth 100000 in
theorem v5_50 : IVS 5 50 mRd_wordOf := ⟨wi 2 207 rfl rfl, wi 2 208 rfl rfl⟩
set_option maxRecDepth 100000 in
theorem v5_54 : IVV 5 54 mRd_takeWord := ⟨wi 2 215 rfl rfl, wi 2 217 rfl rfl, wi 0 4 rfl rfl⟩
set_option maxRecDepth 100000 in
theorem v5_113 : IVV 5 113 mJS_length := ⟨wi 2 219 rfl rfl, wi 2 220 rfl rfl, wi 2 221 rfl rfl⟩
set_option maxRecDepth 100000 in
theorem v13_335 : IVV 13 335 mJS_coder := ⟨wi 2 223 rfl rfl, wi 2 224 rfl rfl, wi 2 225 rfl rfl⟩
set_option maxRecDepth 100000 in
theorem v5_118 : IVV 5 118 mJS_charAt := ⟨wi 2 229 rfl rfl, wi 2 230 rfl rfl, wi 2 231 rfl rfl⟩
set_option maxRecDepth 100000 in
theorem v13_492 : IVV 13 492 mJS_isLatin1 := ⟨wi 2 233 rfl rfl, wi 2 234 rfl rfl, wi 2 235 rfl rfl⟩
set_option maxRecDepth 100000 in
theorem v13_495 : IVS 13 495 mJS1_charAt := ⟨wi 2 237 rfl rfl, wi 2 238 rfl rfl⟩
set_option maxRecDepth 100000 in
theorem v15_9 : IVS 15 9 mJS_checkIndex := ⟨wi 3 0 rfl rfl, wi 3 1 rfl rfl⟩
set_option maxRecDepth 100000 in
theorem v13_1059 : IVS 13 1059 mJP_checkIndex := ⟨wi 3 5 rfl rfl, wi 3 6 rfl rfl⟩
set_option maxRecDepth 100000 in
theorem v13_498 : IVS 13 498 mJS2_charAt := ⟨wi 3 8 rfl rfl, wi 3 9 rfl rfl⟩
set_option maxRecDepth 100000 in
theorem v17_67 : IVS 17 67 mJS2_checkIndex := ⟨wi 3 11 rfl rfl, wi 3 12 rfl rfl⟩
set_option maxRecDepth 100000 in
theorem v17_48 : IVS 17 48 mJS2_length := ⟨wi 3 14 rfl rfl, wi 3 15 rfl rfl⟩
set_option maxRecDepth 100000 in
theorem v17_414 : IVS 17 414 mJS_checkIndex := ⟨wi 3 17 rfl rfl, wi 3 1 rfl rfl⟩
set_option maxRecDepth 100000 in
theorem v17_71 : IVS 17 71 mJS2_getChar := ⟨wi 3 18 rfl rfl, wi 3 19 rfl rfl⟩
set_option maxRecDepth 100000 in
theorem v5_38 : IVV 5 38 mRd_take := ⟨wi 3 27 rfl rfl, wi 3 29 rfl rfl, wi 0 5 rfl rfl⟩
set_option maxRecDepth 100000 in
theorem v5_110 : IVV 5 110 mSh_has := ⟨wi 3 31 rfl rfl, wi 2 27 rfl rfl, wi 2 28 rfl rfl⟩
set_option maxRecDepth 100000 in
theorem v5_58 : IVV 5 58 mRd_lacksRoom := ⟨wi 3 32 rfl rfl, wi 3 34 rfl rfl, wi 0 6 rfl rfl⟩
set_option maxRecDepth 100000 in
theorem v5_62 : IVV 5 62 mRd_readMan := ⟨wi 3 36 rfl rfl, wi 3 38 rfl rfl, wi 0 7 rfl rfl⟩
set_option maxRecDepth 100000 in
theorem v5_91 : IVV 5 91 mRd_takeNumber := ⟨wi 3 40 rfl rfl, wi 3 42 rfl rfl, wi 0 8 rfl rfl⟩
set_option maxRecDepth 100000 in
theorem v5_122 : IVS 5 122 mRd_isDigit := ⟨wi 3 44 rfl rfl, wi 3 45 rfl rfl⟩
set_option maxRecDepth 100000 in
theorem v5_95 : IVV 5 95 mCt_addMan := ⟨wi 3 47 rfl rfl, wi 2 119 rfl rfl, wi 2 120 rfl rfl⟩
set_option maxRecDepth 100000 in
theorem v5_65 : IVV 5 65 mRd_readMeeting := ⟨wi 3 48 rfl rfl, wi 3 50 rfl rfl, wi 0 9 rfl rfl⟩
set_option maxRecDepth 100000 in
theorem v5_102 : IVV 5 102 mCt_link := ⟨wi 3 52 rfl rfl, wi 2 146 rfl rfl, wi 2 147 rfl rfl⟩
set_option maxRecDepth 100000 in
theorem v5_69 : IVV 5 69 mRd_readWord := ⟨wi 3 53 rfl rfl, wi 3 55 rfl rfl, wi 0 10 rfl rfl⟩
set_option maxRecDepth 100000 in
theorem v5_106 : IVV 5 106 mCt_addWord := ⟨wi 3 57 rfl rfl, wi 2 171 rfl rfl, wi 2 172 rfl rfl⟩
set_option maxRecDepth 100000 in
theorem v5_72 : IVV 5 72 mCt_hushWords := ⟨wi 3 58 rfl rfl, wi 2 166 rfl rfl, wi 2 167 rfl rfl⟩
set_option maxRecDepth 100000 in
theorem v9_74 : IVV 9 74 mX_fault := ⟨wi 3 60 rfl rfl, wi 3 61 rfl rfl, wi 3 62 rfl rfl⟩
set_option maxRecDepth 100000 in
theorem v9_79 : IVV 9 79 mX_hears := ⟨wi 3 64 rfl rfl, wi 3 65 rfl rfl, wi 3 66 rfl rfl⟩
set_option maxRecDepth 100000 in
theorem v9_83 : IVV 9 83 mX_sense := ⟨wi 3 68 rfl rfl, wi 3 69 rfl rfl, wi 3 70 rfl rfl⟩
set_option maxRecDepth 100000 in
theorem v7_205 : IVV 7 205 mX_refuseFar := ⟨wi 3 72 rfl rfl, wi 3 74 rfl rfl, wi 0 11 rfl rfl⟩
set_option maxRecDepth 100000 in
theorem v7_208 : IVS 7 208 mX_isRounds := ⟨wi 3 76 rfl rfl, wi 3 77 rfl rfl⟩
set_option maxRecDepth 100000 in
theorem v7_211 : IVV 7 211 mX_knownBehind := ⟨wi 3 79 rfl rfl, wi 3 81 rfl rfl, wi 0 12 rfl rfl⟩
set_option maxRecDepth 100000 in
theorem v7_242 : IVV 7 242 mCo_begin := ⟨wi 3 83 rfl rfl, wi 3 84 rfl rfl, wi 3 85 rfl rfl⟩
set_option maxRecDepth 100000 in
theorem v0_28 : IVV 0 28 mCt_his := ⟨wi 3 87 rfl rfl, wi 2 131 rfl rfl, wi 2 132 rfl rfl⟩
set_option maxRecDepth 100000 in
theorem v7_249 : IVV 7 249 mCo_ride := ⟨wi 3 88 rfl rfl, wi 3 89 rfl rfl, wi 3 90 rfl rfl⟩
set_option maxRecDepth 100000 in
theorem v0_40 : IVV 0 40 mCo_rideOnce := ⟨wi 3 92 rfl rfl, wi 3 94 rfl rfl, wi 0 13 rfl rfl⟩
set_option maxRecDepth 100000 in
theorem v7_214 : IVV 7 214 mCt_senseOf := ⟨wi 3 97 rfl rfl, wi 3 98 rfl rfl, wi 3 99 rfl rfl⟩
set_option maxRecDepth 100000 in
theorem v2_57 : IVN 2 57 mX_senseIn := ⟨wn 3 101 rfl rfl, wi 3 102 rfl rfl⟩
set_option maxRecDepth 100000 in
theorem v9_87 : IVV 9 87 mX_whole := ⟨wi 3 104 rfl rfl, wi 3 105 rfl rfl, wi 3 106 rfl rfl⟩
set_option maxRecDepth 100000 in
theorem v7_217 : IVV 7 217 mCt_wholeSense := ⟨wi 3 108 rfl rfl, wi 3 109 rfl rfl, wi 3 110 rfl rfl⟩
set_option maxRecDepth 100000 in
theorem v2_61 : IVN 2 61 mX_span := ⟨wn 3 112 rfl rfl, wi 2 93 rfl rfl⟩
set_option maxRecDepth 100000 in
theorem v2_65 : IVV 2 65 mCt_senseOf := ⟨wi 3 113 rfl rfl, wi 3 98 rfl rfl, wi 3 99 rfl rfl⟩
set_option maxRecDepth 100000 in
theorem v9_91 : IVV 9 91 mX_known := ⟨wi 3 114 rfl rfl, wi 3 115 rfl rfl, wi 3 116 rfl rfl⟩
set_option maxRecDepth 100000 in
theorem v9_95 : IVV 9 95 mX_belief := ⟨wi 3 118 rfl rfl, wi 3 119 rfl rfl, wi 3 120 rfl rfl⟩
set_option maxRecDepth 100000 in
theorem v9_99 : IVV 9 99 mX_together := ⟨wi 3 122 rfl rfl, wi 3 123 rfl rfl, wi 3 124 rfl rfl⟩
set_option maxRecDepth 100000 in
theorem v7_224 : IVV 7 224 mCt_isSet := ⟨wi 3 126 rfl rfl, wi 3 127 rfl rfl, wi 3 128 rfl rfl⟩
set_option maxRecDepth 100000 in
theorem v7_227 : IVV 7 227 mCl_placesHeardBy := ⟨wi 3 130 rfl rfl, wi 3 131 rfl rfl, wi 3 132 rfl rfl⟩
set_option maxRecDepth 100000 in
theorem v1_28 : IVV 1 28 mCl_listen := ⟨wi 3 134 rfl rfl, wi 3 136 rfl rfl, wi 0 14 rfl rfl⟩
set_option maxRecDepth 100000 in
theorem v1_24 : IVV 1 24 mCt_his := ⟨wi 3 138 rfl rfl, wi 2 131 rfl rfl, wi 2 132 rfl rfl⟩
set_option maxRecDepth 100000 in
theorem v1_32 : IVV 1 32 mCl_heardByAny := ⟨wi 3 139 rfl rfl, wi 3 141 rfl rfl, wi 0 15 rfl rfl⟩
set_option maxRecDepth 100000 in
theorem v7_231 : IVV 7 231 mCl_isSure := ⟨wi 3 143 rfl rfl, wi 3 144 rfl rfl, wi 3 145 rfl rfl⟩
set_option maxRecDepth 100000 in
theorem v1_38 : IVN 1 38 mX_span := ⟨wn 3 147 rfl rfl, wi 2 93 rfl rfl⟩
set_option maxRecDepth 100000 in
theorem v1_42 : IVV 1 42 mCt_senseOf := ⟨wi 3 148 rfl rfl, wi 3 98 rfl rfl, wi 3 99 rfl rfl⟩
set_option maxRecDepth 100000 in
theorem v1_48 : IVN 1 48 mX_senseIn := ⟨wn 3 149 rfl rfl, wi 3 102 rfl rfl⟩
set_option maxRecDepth 100000 in
theorem v9_103 : IVV 9 103 mX_cover := ⟨wi 3 150 rfl rfl, wi 3 151 rfl rfl, wi 3 152 rfl rfl⟩
set_option maxRecDepth 100000 in
theorem v7_235 : IVV 7 235 mCl_fewestWhoCover := ⟨wi 3 154 rfl rfl, wi 3 155 rfl rfl, wi 3 156 rfl rfl⟩
set_option maxRecDepth 100000 in
theorem v1_52 : IVS 1 52 mJI_bitCount := ⟨wi 3 158 rfl rfl, wi 2 109 rfl rfl⟩
set_option maxRecDepth 100000 in
theorem v9_107 : IVV 9 107 mX_ask := ⟨wi 3 159 rfl rfl, wi 3 160 rfl rfl, wi 3 161 rfl rfl⟩
set_option maxRecDepth 100000 in
theorem v7_239 : IVV 7 239 mCl_nextToAsk := ⟨wi 3 163 rfl rfl, wi 3 164 rfl rfl, wi 3 165 rfl rfl⟩
set_option maxRecDepth 100000 in
theorem v1_57 : IVV 1 57 mCl_placesHeardBy := ⟨wi 3 167 rfl rfl, wi 3 131 rfl rfl, wi 3 132 rfl rfl⟩
set_option maxRecDepth 100000 in
theorem v9_111 : IVV 9 111 mX_soon := ⟨wi 3 168 rfl rfl, wi 3 169 rfl rfl, wi 3 170 rfl rfl⟩
set_option maxRecDepth 100000 in
theorem v7_246 : IVV 7 246 mCo_roundsUntilWhole := ⟨wi 3 172 rfl rfl, wi 3 173 rfl rfl, wi 3 174 rfl rfl⟩
set_option maxRecDepth 100000 in
theorem v0_49 : IVV 0 49 mCt_wholeSense := ⟨wi 3 176 rfl rfl, wi 3 109 rfl rfl, wi 3 110 rfl rfl⟩
set_option maxRecDepth 100000 in
theorem v0_53 : IVV 0 53 mCt_isMan := ⟨wi 3 177 rfl rfl, wi 2 55 rfl rfl, wi 2 56 rfl rfl⟩
set_option maxRecDepth 100000 in
theorem v0_57 : IVV 0 57 mCt_senseOf := ⟨wi 3 178 rfl rfl, wi 3 98 rfl rfl, wi 3 99 rfl rfl⟩
set_option maxRecDepth 100000 in
theorem v9_115 : IVV 9 115 mX_wrongOnes := ⟨wi 3 179 rfl rfl, wi 3 180 rfl rfl, wi 3 181 rfl rfl⟩
set_option maxRecDepth 100000 in
theorem v7_252 : IVV 7 252 mCo_falseOnes := ⟨wi 3 183 rfl rfl, wi 3 184 rfl rfl, wi 3 185 rfl rfl⟩
set_option maxRecDepth 100000 in
theorem v9_119 : IVV 9 119 mX_apart := ⟨wi 3 187 rfl rfl, wi 3 188 rfl rfl, wi 3 189 rfl rfl⟩
set_option maxRecDepth 100000 in
theorem v7_255 : IVV 7 255 mCo_fewestApart := ⟨wi 3 191 rfl rfl, wi 3 192 rfl rfl, wi 3 193 rfl rfl⟩
set_option maxRecDepth 100000 in
theorem v0_60 : IVS 0 60 mJI_bitCount := ⟨wi 3 195 rfl rfl, wi 2 109 rfl rfl⟩
set_option maxRecDepth 100000 in
theorem v0_65 : IVV 0 65 mCo_begin := ⟨wi 3 196 rfl rfl, wi 3 84 rfl rfl, wi 3 85 rfl rfl⟩
set_option maxRecDepth 100000 in
theorem v0_69 : IVV 0 69 mCo_sendAway := ⟨wi 3 197 rfl rfl, wi 3 199 rfl rfl, wi 0 16 rfl rfl⟩
set_option maxRecDepth 100000 in
theorem v0_73 : IVV 0 73 mCo_roundsUntilWhole := ⟨wi 3 201 rfl rfl, wi 3 173 rfl rfl, wi 3 174 rfl rfl⟩
set_option maxRecDepth 100000 in
theorem v9_123 : IVV 9 123 mX_lose := ⟨wi 3 202 rfl rfl, wi 3 203 rfl rfl, wi 3 204 rfl rfl⟩
set_option maxRecDepth 100000 in
theorem v7_258 : IVV 7 258 mCo_worstLoss := ⟨wi 3 206 rfl rfl, wi 3 207 rfl rfl, wi 3 208 rfl rfl⟩
set_option maxRecDepth 100000 in
theorem v0_77 : IVV 0 77 mCt_doMeet := ⟨wi 3 210 rfl rfl, wi 2 142 rfl rfl, wi 2 143 rfl rfl⟩
set_option maxRecDepth 100000 in
theorem v0_81 : IVV 0 81 mCo_ride := ⟨wi 3 211 rfl rfl, wi 3 89 rfl rfl, wi 3 90 rfl rfl⟩
set_option maxRecDepth 100000 in
theorem v0_84 : IVV 0 84 mCo_howManyHaveWhole := ⟨wi 3 212 rfl rfl, wi 3 214 rfl rfl, wi 0 17 rfl rfl⟩
set_option maxRecDepth 100000 in
theorem v9_127 : IVV 9 127 mX_speak := ⟨wi 3 216 rfl rfl, wi 3 217 rfl rfl, wi 3 218 rfl rfl⟩
set_option maxRecDepth 100000 in
theorem v7_261 : IVS 7 261 mX_maySpeak := ⟨wi 3 220 rfl rfl, wi 3 221 rfl rfl⟩
set_option maxRecDepth 100000 in
theorem v7_264 : IVS 7 264 mX_ownLength := ⟨wi 3 223 rfl rfl, wi 3 224 rfl rfl⟩
set_option maxRecDepth 100000 in
theorem v7_272 : IVS 7 272 mX_ownWord := ⟨wi 3 226 rfl rfl, wi 3 227 rfl rfl⟩
set_option maxRecDepth 100000 in
theorem v9_132 : IVV 9 132 mX_needs := ⟨wi 3 229 rfl rfl, wi 3 230 rfl rfl, wi 3 231 rfl rfl⟩
set_option maxRecDepth 100000 in
theorem v7_275 : IVV 7 275 mCl_shortestFor := ⟨wi 3 233 rfl rfl, wi 3 234 rfl rfl, wi 3 235 rfl rfl⟩
set_option maxRecDepth 100000 in
theorem v1_70 : IVV 1 70 mSh_asInt := ⟨wi 3 237 rfl rfl, wi 2 162 rfl rfl, wi 2 163 rfl rfl⟩
set_option maxRecDepth 100000 in
theorem v1_75 : IVS 1 75 mJL_bitCount := ⟨wi 3 238 rfl rfl, wi 3 239 rfl rfl⟩
set_option maxRecDepth 100000 in
theorem v9_136 : IVV 9 136 mX_count := ⟨wi 4 5 rfl rfl, wi 4 6 rfl rfl, wi 4 7 rfl rfl⟩
set_option maxRecDepth 100000 in
theorem v7_278 : IVV 7 278 mCl_slips := ⟨wi 4 9 rfl rfl, wi 4 10 rfl rfl, wi 4 11 rfl rfl⟩
set_option maxRecDepth 100000 in
theorem v1_96 : IVV 1 96 mCl_slipHearsJust := ⟨wi 4 13 rfl rfl, wi 4 15 rfl rfl, wi 0 18 rfl rfl⟩
set_option maxRecDepth 100000 in
theorem v1_88 : IVN 1 88 mX_placesBy := ⟨wn 4 17 rfl rfl, wi 2 87 rfl rfl⟩
set_option maxRecDepth 100000 in
theorem v1_92 : IVV 1 92 mCl_isJust := ⟨wi 4 18 rfl rfl, wi 4 20 rfl rfl, wi 0 19 rfl rfl⟩
set_option maxRecDepth 100000 in
theorem v7_281 : IVV 7 281 mCl_firstSlip := ⟨wi 4 22 rfl rfl, wi 4 23 rfl rfl, wi 4 24 rfl rfl⟩
set_option maxRecDepth 100000 in
theorem v9_140 : IVV 9 140 mX_could := ⟨wi 4 26 rfl rfl, wi 4 27 rfl rfl, wi 4 28 rfl rfl⟩
set_option maxRecDepth 100000 in
theorem v7_284 : IVV 7 284 mCl_whoHearJust := ⟨wi 4 30 rfl rfl, wi 4 31 rfl rfl, wi 4 32 rfl rfl⟩
set_option maxRecDepth 100000 in
theorem v9_144 : IVV 9 144 mX_swap := ⟨wi 4 34 rfl rfl, wi 4 35 rfl rfl, wi 4 36 rfl rfl⟩
set_option maxRecDepth 100000 in
theorem v7_287 : IVV 7 287 mCl_bestSwap := ⟨wi 4 38 rfl rfl, wi 4 39 rfl rfl, wi 4 40 rfl rfl⟩
set_option maxRecDepth 100000 in
theorem v1_106 : IVV 1 106 mCl_howManyHaveSense := ⟨wi 4 43 rfl rfl, wi 4 45 rfl rfl, wi 0 20 rfl rfl⟩
set_option maxRecDepth 100000 in
theorem v1_109 : IVV 1 109 mCl_exchange := ⟨wi 4 47 rfl rfl, wi 4 49 rfl rfl, wi 0 21 rfl rfl⟩
set_option maxRecDepth 100000 in
theorem v9_148 : IVV 9 148 mX_judge := ⟨wi 4 51 rfl rfl, wi 4 52 rfl rfl, wi 4 53 rfl rfl⟩
set_option maxRecDepth 100000 in
theorem v9_152 : IVV 9 152 mX_would := ⟨wi 4 55 rfl rfl, wi 4 56 rfl rfl, wi 4 57 rfl rfl⟩
set_option maxRecDepth 100000 in
theorem v7_290 : IVV 7 290 mMn_placesOf := ⟨wi 4 59 rfl rfl, wi 2 83 rfl rfl, wi 2 84 rfl rfl⟩
set_option maxRecDepth 100000 in
theorem v7_293 : IVV 7 293 mCl_senseOfTold := ⟨wi 4 60 rfl rfl, wi 4 61 rfl rfl, wi 4 62 rfl rfl⟩
set_option maxRecDepth 100000 in
theorem v9_156 : IVV 9 156 mX_audience := ⟨wi 4 64 rfl rfl, wi 4 65 rfl rfl, wi 4 66 rfl rfl⟩
set_option maxRecDepth 100000 in
theorem v7_297 : IVV 7 297 mX_hold := ⟨wi 4 68 rfl rfl, wi 4 70 rfl rfl, wi 0 22 rfl rfl⟩
set_option maxRecDepth 100000 in
theorem v7_337 : IVV 7 337 mCo_believe := ⟨wi 4 72 rfl rfl, wi 4 73 rfl rfl, wi 4 74 rfl rfl⟩
set_option maxRecDepth 100000 in
theorem v9_160 : IVV 9 160 mX_reign := ⟨wi 4 76 rfl rfl, wi 4 77 rfl rfl, wi 4 78 rfl rfl⟩
set_option maxRecDepth 100000 in
theorem v7_300 : IVV 7 300 mCt_drawSaying := ⟨wi 4 80 rfl rfl, wi 4 81 rfl rfl, wi 4 82 rfl rfl⟩
set_option maxRecDepth 100000 in
theorem v2_80 : IVV 2 80 mCt_hushWords := ⟨wi 4 84 rfl rfl, wi 2 166 rfl rfl, wi 2 167 rfl rfl⟩
set_option maxRecDepth 100000 in
theorem v2_83 : IVV 2 83 mCt_drawUpper := ⟨wi 4 85 rfl rfl, wi 4 87 rfl rfl, wi 0 23 rfl rfl⟩
set_option maxRecDepth 100000 in
theorem v2_87 : IVV 2 87 mCt_addWord := ⟨wi 4 90 rfl rfl, wi 2 171 rfl rfl, wi 2 172 rfl rfl⟩
set_option maxRecDepth 100000 in
theorem v9_164 : IVV 9 164 mX_seed := ⟨wi 4 91 rfl rfl, wi 4 92 rfl rfl, wi 4 93 rfl rfl⟩
set_option maxRecDepth 100000 in
theorem v9_168 : IVV 9 168 mX_act := ⟨wi 4 95 rfl rfl, wi 4 96 rfl rfl, wi 4 97 rfl rfl⟩
set_option maxRecDepth 100000 in
theorem v7_306 : IVV 7 306 mMv_forget := ⟨wi 4 99 rfl rfl, wi 4 100 rfl rfl, wi 4 101 rfl rfl⟩
set_option maxRecDepth 100000 in
theorem v7_309 : IVV 7 309 mMv_play := ⟨wi 4 103 rfl rfl, wi 4 104 rfl rfl, wi 4 105 rfl rfl⟩
set_option maxRecDepth 100000 in
theorem v4_32 : IVS 4 32 mMv_run := ⟨wi 4 107 rfl rfl, wi 4 108 rfl rfl⟩
set_option maxRecDepth 100000 in
theorem v4_46 : IVS 4 46 mMv_ownerOf := ⟨wi 4 110 rfl rfl, wi 4 111 rfl rfl⟩
set_option maxRecDepth 100000 in
theorem v4_36 : IVN 4 36 mX_isKind := ⟨wn 4 113 rfl rfl, wi 2 71 rfl rfl⟩
set_option maxRecDepth 100000 in
theorem v4_50 : IVV 4 50 mMv_note := ⟨wi 4 117 rfl rfl, wi 4 119 rfl rfl, wi 0 24 rfl rfl⟩
set_option maxRecDepth 100000 in
theorem v9_172 : IVV 9 172 mX_trace := ⟨wi 4 121 rfl rfl, wi 4 122 rfl rfl, wi 4 123 rfl rfl⟩
set_option maxRecDepth 100000 in
theorem v7_313 : IVV 7 313 mMv_traced := ⟨wi 4 125 rfl rfl, wi 4 126 rfl rfl, wi 4 127 rfl rfl⟩
set_option maxRecDepth 100000 in
theorem v9_176 : IVV 9 176 mX_image := ⟨wi 4 129 rfl rfl, wi 4 130 rfl rfl, wi 4 131 rfl rfl⟩
set_option maxRecDepth 100000 in
theorem v7_316 : IVV 7 316 mCt_become := ⟨wi 4 133 rfl rfl, wi 2 191 rfl rfl, wi 2 192 rfl rfl⟩
set_option maxRecDepth 100000 in
theorem v9_180 : IVV 9 180 mX_restore := ⟨wi 4 134 rfl rfl, wi 4 135 rfl rfl, wi 4 136 rfl rfl⟩
set_option maxRecDepth 100000 in
theorem v9_184 : IVV 9 184 mX_status := ⟨wi 4 138 rfl rfl, wi 4 139 rfl rfl, wi 4 140 rfl rfl⟩
set_option maxRecDepth 100000 in
theorem v7_319 : IVV 7 319 mCt_meetings := ⟨wi 4 142 rfl rfl, wi 4 143 rfl rfl, wi 4 144 rfl rfl⟩
set_option maxRecDepth 100000 in
theorem v2_68 : IVS 2 68 mJI_bitCount := ⟨wi 4 146 rfl rfl, wi 2 109 rfl rfl⟩
set_option maxRecDepth 100000 in
theorem v7_322 : IVV 7 322 mCt_allHits := ⟨wi 4 147 rfl rfl, wi 4 148 rfl rfl, wi 4 149 rfl rfl⟩
set_option maxRecDepth 100000 in
theorem v7_325 : IVV 7 325 mCt_believers := ⟨wi 4 151 rfl rfl, wi 4 152 rfl rfl, wi 4 153 rfl rfl⟩
set_option maxRecDepth 100000 in
theorem v9_17 : IVV 9 17 mM_row := ⟨wi 5 0 rfl rfl, wi 5 1 rfl rfl, wi 5 2 rfl rfl⟩
set_option maxRecDepth 100000 in
theorem v8_79 : IVS 8 79 mM_within := ⟨wi 5 4 rfl rfl, wi 5 5 rfl rfl⟩
set_option maxRecDepth 100000 in
theorem v8_72 : IVV 8 72 mM_no := ⟨wi 5 7 rfl rfl, wi 5 9 rfl rfl, wi 0 25 rfl rfl⟩
set_option maxRecDepth 100000 in
theorem v9_24 : IVV 9 24 mM_set := ⟨wi 5 11 rfl rfl, wi 5 12 rfl rfl, wi 5 13 rfl rfl⟩
set_option maxRecDepth 100000 in
theorem v8_87 : IVV 8 87 mM_noRow := ⟨wi 5 15 rfl rfl, wi 5 17 rfl rfl, wi 0 26 rfl rfl⟩
set_option maxRecDepth 100000 in
theorem v8_83 : IVV 8 83 mM_isRow := ⟨wi 5 19 rfl rfl, wi 5 21 rfl rfl, wi 0 27 rfl rfl⟩
set_option maxRecDepth 100000 in
theorem v9_29 : IVV 9 29 mM_copy := ⟨wi 5 23 rfl rfl, wi 5 24 rfl rfl, wi 5 25 rfl rfl⟩
set_option maxRecDepth 100000 in
theorem v9_34 : IVV 9 34 mM_element := ⟨wi 5 27 rfl rfl, wi 5 28 rfl rfl, wi 5 29 rfl rfl⟩
set_option maxRecDepth 100000 in
theorem v9_39 : IVV 9 39 mM_show := ⟨wi 5 31 rfl rfl, wi 5 32 rfl rfl, wi 5 33 rfl rfl⟩
set_option maxRecDepth 100000 in
theorem v8_90 : IVV 8 90 mM_isMan := ⟨wi 5 35 rfl rfl, wi 5 37 rfl rfl, wi 0 28 rfl rfl⟩
set_option maxRecDepth 100000 in
theorem v9_44 : IVV 9 44 mM_holds := ⟨wi 5 39 rfl rfl, wi 5 40 rfl rfl, wi 5 41 rfl rfl⟩
set_option maxRecDepth 100000 in
theorem v9_48 : IVV 9 48 mM_says := ⟨wi 5 43 rfl rfl, wi 5 44 rfl rfl, wi 5 45 rfl rfl⟩
set_option maxRecDepth 100000 in
theorem v8_96 : IVS 8 96 mM_isUnder := ⟨wi 5 47 rfl rfl, wi 5 48 rfl rfl⟩
set_option maxRecDepth 100000 in
theorem v8_93 : IVS 8 93 mM_above := ⟨wi 5 50 rfl rfl, wi 5 51 rfl rfl⟩
set_option maxRecDepth 100000 in
theorem v8_100 : IVV 8 100 mM_hisOf := ⟨wi 5 53 rfl rfl, wi 5 55 rfl rfl, wi 0 29 rfl rfl⟩
set_option maxRecDepth 100000 in
theorem v8_103 : IVV 8 103 mM_his := ⟨wi 5 57 rfl rfl, wi 5 59 rfl rfl, wi 0 30 rfl rfl⟩
set_option maxRecDepth 100000 in
theorem v8_107 : IVS 8 107 mJI_bitCount := ⟨wi 5 61 rfl rfl, wi 2 109 rfl rfl⟩
set_option maxRecDepth 100000 in
theorem v9_52 : IVV 9 52 mM_man := ⟨wi 5 62 rfl rfl, wi 5 63 rfl rfl, wi 5 64 rfl rfl⟩
set_option maxRecDepth 100000 in
theorem v8_112 : IVV 8 112 mM_newMan := ⟨wi 5 66 rfl rfl, wi 5 68 rfl rfl, wi 0 31 rfl rfl⟩
set_option maxRecDepth 100000 in
theorem v9_56 : IVV 9 56 mM_manOf := ⟨wi 5 70 rfl rfl, wi 5 71 rfl rfl, wi 5 72 rfl rfl⟩
set_option maxRecDepth 100000 in
theorem v9_61 : IVV 9 61 mM_meet := ⟨wi 5 74 rfl rfl, wi 5 75 rfl rfl, wi 5 76 rfl rfl⟩
set_option maxRecDepth 100000 in
theorem v8_115 : IVS 8 115 mM_has := ⟨wi 5 78 rfl rfl, wi 5 79 rfl rfl⟩
set_option maxRecDepth 100000 in
theorem v8_118 : IVV 8 118 mM_meeting := ⟨wi 5 81 rfl rfl, wi 5 83 rfl rfl, wi 0 32 rfl rfl⟩
set_option maxRecDepth 100000 in
theorem v9_65 : IVV 9 65 mM_say := ⟨wi 5 85 rfl rfl, wi 5 86 rfl rfl, wi 5 87 rfl rfl⟩
set_option maxRecDepth 100000 in
theorem v8_129 : IVV 8 129 mM_noSaying := ⟨wi 5 89 rfl rfl, wi 5 91 rfl rfl, wi 0 33 rfl rfl⟩
set_option maxRecDepth 100000 in
theorem v8_132 : IVV 8 132 mM_wrong := ⟨wi 5 93 rfl rfl, wi 5 95 rfl rfl, wi 0 34 rfl rfl⟩
set_option maxRecDepth 100000 in
theorem v8_122 : IVV 8 122 mM_told := ⟨wi 5 97 rfl rfl, wi 5 99 rfl rfl, wi 0 35 rfl rfl⟩
set_option maxRecDepth 100000 in
theorem v8_126 : IVS 8 126 mM_isWord := ⟨wi 5 101 rfl rfl, wi 5 102 rfl rfl⟩
set_option maxRecDepth 100000 in
theorem v9_69 : IVV 9 69 mM_word := ⟨wi 5 104 rfl rfl, wi 5 105 rfl rfl, wi 5 106 rfl rfl⟩
set_option maxRecDepth 100000 in
theorem v9_73 : IVV 9 73 mM_court := ⟨wi 5 108 rfl rfl, wi 5 109 rfl rfl, wi 5 110 rfl rfl⟩
set_option maxRecDepth 100000 in
theorem v8_187 : IVV 8 187 mM_keep := ⟨wi 5 112 rfl rfl, wi 5 114 rfl rfl, wi 0 36 rfl rfl⟩
set_option maxRecDepth 100000 in
theorem v8_191 : IVV 8 191 mM_item := ⟨wi 5 116 rfl rfl, wi 5 118 rfl rfl, wi 0 37 rfl rfl⟩
set_option maxRecDepth 100000 in
theorem v8_144 : IVV 8 144 mM_sign := ⟨wi 5 120 rfl rfl, wi 5 122 rfl rfl, wi 0 38 rfl rfl⟩
set_option maxRecDepth 100000 in
theorem v8_160 : IVV 8 160 mM_word_2 := ⟨wi 5 125 rfl rfl, wi 5 127 rfl rfl, wi 0 39 rfl rfl⟩
set_option maxRecDepth 100000 in
theorem v8_148 : IVV 8 148 mJS_length := ⟨wi 5 129 rfl rfl, wi 2 220 rfl rfl, wi 2 221 rfl rfl⟩
set_option maxRecDepth 100000 in
theorem v8_152 : IVV 8 152 mJS_charAt := ⟨wi 5 130 rfl rfl, wi 2 230 rfl rfl, wi 2 231 rfl rfl⟩
set_option maxRecDepth 100000 in
theorem v8_156 : IVV 8 156 mM_is := ⟨wi 5 131 rfl rfl, wi 5 133 rfl rfl, wi 0 40 rfl rfl⟩
set_option maxRecDepth 100000 in
theorem v8_166 : IVV 8 166 mM_two := ⟨wi 5 135 rfl rfl, wi 5 137 rfl rfl, wi 0 41 rfl rfl⟩
set_option maxRecDepth 100000 in
theorem v8_175 : IVV 8 175 mM_number := ⟨wi 5 139 rfl rfl, wi 5 141 rfl rfl, wi 0 42 rfl rfl⟩
set_option maxRecDepth 100000 in
theorem v8_183 : IVV 8 183 mM_stands := ⟨wi 5 143 rfl rfl, wi 5 145 rfl rfl, wi 0 43 rfl rfl⟩
set_option maxRecDepth 100000 in
theorem v8_172 : IVV 8 172 mM_word_3 := ⟨wi 5 148 rfl rfl, wi 5 150 rfl rfl, wi 0 44 rfl rfl⟩
set_option maxRecDepth 100000 in
theorem v8_195 : IVV 8 195 mM_again := ⟨wi 5 155 rfl rfl, wi 5 157 rfl rfl, wi 0 45 rfl rfl⟩
set_option maxRecDepth 100000 in
theorem v9_78 : IVV 9 78 mM_fault := ⟨wi 5 159 rfl rfl, wi 5 160 rfl rfl, wi 5 161 rfl rfl⟩
set_option maxRecDepth 100000 in
theorem v9_82 : IVV 9 82 mM_hears := ⟨wi 5 163 rfl rfl, wi 5 164 rfl rfl, wi 5 165 rfl rfl⟩
set_option maxRecDepth 100000 in
theorem v9_86 : IVV 9 86 mM_sense := ⟨wi 5 167 rfl rfl, wi 5 168 rfl rfl, wi 5 169 rfl rfl⟩
set_option maxRecDepth 100000 in
theorem v8_204 : IVV 8 204 mM_no10 := ⟨wi 5 171 rfl rfl, wi 5 173 rfl rfl, wi 0 46 rfl rfl⟩
set_option maxRecDepth 100000 in
theorem v8_207 : IVS 8 207 mM_isRounds := ⟨wi 5 175 rfl rfl, wi 5 176 rfl rfl⟩
set_option maxRecDepth 100000 in
theorem v8_210 : IVV 8 210 mM_goOn := ⟨wi 5 178 rfl rfl, wi 5 180 rfl rfl, wi 0 47 rfl rfl⟩
set_option maxRecDepth 100000 in
theorem v8_201 : IVV 8 201 mM_round := ⟨wi 5 182 rfl rfl, wi 5 184 rfl rfl, wi 0 48 rfl rfl⟩
set_option maxRecDepth 100000 in
theorem v8_198 : IVV 8 198 mM_senseOf := ⟨wi 5 186 rfl rfl, wi 5 188 rfl rfl, wi 0 49 rfl rfl⟩
set_option maxRecDepth 100000 in
theorem v9_90 : IVV 9 90 mM_whole := ⟨wi 5 190 rfl rfl, wi 5 191 rfl rfl, wi 5 192 rfl rfl⟩
set_option maxRecDepth 100000 in
theorem v8_214 : IVV 8 214 mM_wholeOf := ⟨wi 5 194 rfl rfl, wi 5 196 rfl rfl, wi 0 50 rfl rfl⟩
set_option maxRecDepth 100000 in
theorem v9_94 : IVV 9 94 mM_known := ⟨wi 5 198 rfl rfl, wi 5 199 rfl rfl, wi 5 200 rfl rfl⟩
set_option maxRecDepth 100000 in
theorem v9_98 : IVV 9 98 mM_belief := ⟨wi 5 202 rfl rfl, wi 5 203 rfl rfl, wi 5 204 rfl rfl⟩
set_option maxRecDepth 100000 in
theorem v9_102 : IVV 9 102 mM_together := ⟨wi 5 206 rfl rfl, wi 5 207 rfl rfl, wi 5 208 rfl rfl⟩
set_option maxRecDepth 100000 in
theorem v8_217 : IVV 8 217 mM_isSet := ⟨wi 5 210 rfl rfl, wi 5 212 rfl rfl, wi 0 51 rfl rfl⟩
set_option maxRecDepth 100000 in
theorem v8_220 : IVV 8 220 mM_heardBy := ⟨wi 5 214 rfl rfl, wi 5 216 rfl rfl, wi 0 52 rfl rfl⟩
set_option maxRecDepth 100000 in
theorem v8_223 : IVV 8 223 mM_isSure := ⟨wi 5 218 rfl rfl, wi 5 220 rfl rfl, wi 0 53 rfl rfl⟩
set_option maxRecDepth 100000 in
theorem v9_106 : IVV 9 106 mM_cover := ⟨wi 5 222 rfl rfl, wi 5 223 rfl rfl, wi 5 224 rfl rfl⟩
set_option maxRecDepth 100000 in
theorem v8_226 : IVS 8 226 mM_isBetter := ⟨wi 5 226 rfl rfl, wi 5 227 rfl rfl⟩
set_option maxRecDepth 100000 in
theorem v9_110 : IVV 9 110 mM_ask := ⟨wi 5 229 rfl rfl, wi 5 230 rfl rfl, wi 5 231 rfl rfl⟩
set_option maxRecDepth 100000 in
theorem v9_114 : IVV 9 114 mM_soon := ⟨wi 5 233 rfl rfl, wi 5 234 rfl rfl, wi 5 235 rfl rfl⟩
set_option maxRecDepth 100000 in
theorem v8_229 : IVV 8 229 mM_soonOf := ⟨wi 5 237 rfl rfl, wi 5 239 rfl rfl, wi 0 54 rfl rfl⟩
set_option maxRecDepth 100000 in
theorem v9_118 : IVV 9 118 mM_wrongOnes := ⟨wi 6 1 rfl rfl, wi 6 2 rfl rfl, wi 6 3 rfl rfl⟩
set_option maxRecDepth 100000 in
theorem v9_122 : IVV 9 122 mM_apart := ⟨wi 6 5 rfl rfl, wi 6 6 rfl rfl, wi 6 7 rfl rfl⟩
set_option maxRecDepth 100000 in
theorem v9_126 : IVV 9 126 mM_lose := ⟨wi 6 9 rfl rfl, wi 6 10 rfl rfl, wi 6 11 rfl rfl⟩
set_option maxRecDepth 100000 in
theorem v8_232 : IVV 8 232 mM_haveIt := ⟨wi 6 13 rfl rfl, wi 6 15 rfl rfl, wi 0 55 rfl rfl⟩
set_option maxRecDepth 100000 in
theorem v9_131 : IVV 9 131 mM_speak := ⟨wi 6 17 rfl rfl, wi 6 18 rfl rfl, wi 6 19 rfl rfl⟩
set_option maxRecDepth 100000 in
theorem v8_235 : IVS 8 235 mM_isSense := ⟨wi 6 21 rfl rfl, wi 6 22 rfl rfl⟩
set_option maxRecDepth 100000 in
theorem v8_238 : IVV 8 238 mM_speaks := ⟨wi 6 24 rfl rfl, wi 6 26 rfl rfl, wi 0 56 rfl rfl⟩
set_option maxRecDepth 100000 in
theorem v9_135 : IVV 9 135 mM_needs := ⟨wi 6 29 rfl rfl, wi 6 30 rfl rfl, wi 6 31 rfl rfl⟩
set_option maxRecDepth 100000 in
theorem v8_246 : IVV 8 246 mM_wanted := ⟨wi 6 33 rfl rfl, wi 6 35 rfl rfl, wi 0 57 rfl rfl⟩
set_option maxRecDepth 100000 in
theorem v9_139 : IVV 9 139 mM_count := ⟨wi 6 37 rfl rfl, wi 6 38 rfl rfl, wi 6 39 rfl rfl⟩
set_option maxRecDepth 100000 in
theorem v8_249 : IVV 8 249 mM_isHeard := ⟨wi 6 41 rfl rfl, wi 6 43 rfl rfl, wi 0 58 rfl rfl⟩
set_option maxRecDepth 100000 in
theorem v9_143 : IVV 9 143 mM_could := ⟨wi 6 45 rfl rfl, wi 6 46 rfl rfl, wi 6 47 rfl rfl⟩
set_option maxRecDepth 100000 in
theorem v9_147 : IVV 9 147 mM_swap := ⟨wi 6 49 rfl rfl, wi 6 50 rfl rfl, wi 6 51 rfl rfl⟩
set_option maxRecDepth 100000 in
theorem v8_252 : IVV 8 252 mM_senses := ⟨wi 6 53 rfl rfl, wi 6 55 rfl rfl, wi 0 59 rfl rfl⟩
set_option maxRecDepth 100000 in
theorem v8_255 : IVV 8 255 mM_change := ⟨wi 6 57 rfl rfl, wi 6 59 rfl rfl, wi 0 60 rfl rfl⟩
set_option maxRecDepth 100000 in
theorem v9_151 : IVV 9 151 mM_judge := ⟨wi 6 61 rfl rfl, wi 6 62 rfl rfl, wi 6 63 rfl rfl⟩
set_option maxRecDepth 100000 in
theorem v9_155 : IVV 9 155 mM_would := ⟨wi 6 65 rfl rfl, wi 6 66 rfl rfl, wi 6 67 rfl rfl⟩
set_option maxRecDepth 100000 in
theorem v9_159 : IVV 9 159 mM_audience := ⟨wi 6 69 rfl rfl, wi 6 70 rfl rfl, wi 6 71 rfl rfl⟩
set_option maxRecDepth 100000 in
theorem v8_259 : IVV 8 259 mM_heard := ⟨wi 6 73 rfl rfl, wi 6 75 rfl rfl, wi 0 61 rfl rfl⟩
set_option maxRecDepth 100000 in
theorem v9_163 : IVV 9 163 mM_reign := ⟨wi 6 77 rfl rfl, wi 6 78 rfl rfl, wi 6 79 rfl rfl⟩
set_option maxRecDepth 100000 in
theorem v8_263 : IVV 8 263 mM_draw := ⟨wi 6 81 rfl rfl, wi 6 83 rfl rfl, wi 0 62 rfl rfl⟩
set_option maxRecDepth 100000 in
theorem v9_167 : IVV 9 167 mM_seed := ⟨wi 6 86 rfl rfl, wi 6 87 rfl rfl, wi 6 88 rfl rfl⟩
set_option maxRecDepth 100000 in
theorem v9_171 : IVV 9 171 mM_act := ⟨wi 6 90 rfl rfl, wi 6 91 rfl rfl, wi 6 92 rfl rfl⟩
set_option maxRecDepth 100000 in
theorem v8_272 : IVV 8 272 mM_hearsBy := ⟨wi 6 94 rfl rfl, wi 6 96 rfl rfl, wi 0 63 rfl rfl⟩
set_option maxRecDepth 100000 in
theorem v8_269 : IVV 8 269 mM_ran := ⟨wi 6 98 rfl rfl, wi 6 100 rfl rfl, wi 0 64 rfl rfl⟩
set_option maxRecDepth 100000 in
theorem v8_275 : IVV 8 275 mM_makesBy := ⟨wi 6 102 rfl rfl, wi 6 104 rfl rfl, wi 0 65 rfl rfl⟩
set_option maxRecDepth 100000 in
theorem v8_278 : IVV 8 278 mM_tellsBy := ⟨wi 6 106 rfl rfl, wi 6 108 rfl rfl, wi 0 66 rfl rfl⟩
set_option maxRecDepth 100000 in
theorem v9_175 : IVV 9 175 mM_trace := ⟨wi 6 110 rfl rfl, wi 6 111 rfl rfl, wi 6 112 rfl rfl⟩
set_option maxRecDepth 100000 in
theorem v9_179 : IVV 9 179 mM_image := ⟨wi 6 114 rfl rfl, wi 6 115 rfl rfl, wi 6 116 rfl rfl⟩
set_option maxRecDepth 100000 in
theorem v9_183 : IVV 9 183 mM_restore := ⟨wi 6 118 rfl rfl, wi 6 119 rfl rfl, wi 6 120 rfl rfl⟩
set_option maxRecDepth 100000 in
theorem v9_187 : IVV 9 187 mM_status := ⟨wi 6 122 rfl rfl, wi 6 123 rfl rfl, wi 6 124 rfl rfl⟩
def LKL : List (Nat × Nat × Nat × Nat) := [(3, 15, 3, 0), (4, 22, 3, 0), (7, 127, 3, 0), (3, 18, 3, 1), (4, 28, 3, 1), (7, 150, 3, 1), (3, 21, 3, 2), (1, 65, 3, 2), (7, 153, 3, 2), (3, 9, 3, 3), (0, 88, 3, 3), (2, 76, 3, 3), (7, 221, 3, 3), (3, 24, 3, 4), (7, 167, 3, 4), (0, 91, 3, 4), (2, 73, 3, 4), (3, 27, 3, 5), (0, 36, 3, 5), (2, 50, 3, 5), (7, 164, 3, 5), (2, 11, 2, 0), (0, 32, 2, 0), (1, 61, 2, 0), (7, 123, 2, 0), (0, 21, 2, 1), (1, 18, 2, 1), (2, 30, 2, 1), (5, 85, 2, 1), (7, 143, 2, 1), (2, 17, 2, 2), (1, 45, 2, 2), (7, 195, 2, 2), (2, 39, 2, 3), (1, 35, 2, 3), (5, 88, 2, 3), (7, 136, 2, 3), (2, 21, 2, 4), (7, 303, 2, 4), (6, 9, 6, 0), (7, 95, 6, 0), (5, 33, 6, 1), (6, 19, 6, 1), (7, 98, 6, 1), (1, 85, 6, 1), (6, 15, 6, 2), (7, 101, 6, 2), (5, 12, 5, 0), (5, 26, 5, 1), (5, 99, 5, 2), (5, 18, 5, 3), (7, 202, 5, 3), (0, 9, 0, 0), (7, 334, 0, 0), (0, 15, 0, 1), (0, 18, 0, 2), (0, 27, 0, 3), (1, 9, 1, 0), (1, 15, 1, 1), (4, 11, 4, 0), (4, 15, 4, 1), (7, 328, 4, 1), (4, 19, 4, 2), (4, 27, 4, 3), (4, 31, 4, 4), (7, 10, 7, 0), (7, 16, 7, 1), (7, 21, 7, 2), (7, 26, 7, 3), (7, 33, 7, 4), (7, 40, 7, 5), (7, 47, 7, 6), (7, 54, 7, 7), (7, 58, 7, 8), (7, 62, 7, 9), (8, 7, 8, 0), (8, 13, 8, 1), (8, 16, 8, 2), (8, 76, 8, 3), (8, 20, 8, 4), (8, 23, 8, 5), (8, 26, 8, 6), (8, 29, 8, 7), (8, 32, 8, 8), (8, 35, 8, 9), (8, 135, 8, 10), (8, 38, 8, 11), (8, 65, 8, 12), (8, 69, 8, 13), (8, 41, 8, 14), (8, 266, 8, 15), (8, 44, 8, 16), (8, 281, 8, 17), (8, 47, 8, 18), (8, 50, 8, 19), (8, 53, 8, 20), (8, 56, 8, 21), (8, 59, 8, 22), (8, 141, 8, 23), (8, 138, 8, 24), (8, 62, 8, 25)]
def LKP (t : Nat × Nat × Nat × Nat) : Prop := Cond.fieldLink (RN t.1) t.2.1 (cT t.2.2.1 t.2.2.2).1 (cT t.2.2.1 t.2.2.2).2.1 (cT t.2.2.1 t.2.2.2).2.2.1 ∈ GW
set_option maxRecDepth 100000 in
theorem LKL_ok : ∀ t ∈ LKL, LKP t :=
  List.forall_mem_cons.mpr ⟨wi 1 39 rfl rfl, List.forall_mem_cons.mpr ⟨wi 1 40 rfl rfl, List.forall_mem_cons.mpr ⟨wi 1 41 rfl rfl, List.forall_mem_cons.mpr ⟨wi 1 42 rfl rfl, List.forall_mem_cons.mpr ⟨wi 1 43 rfl rfl, List.forall_mem_cons.mpr ⟨wi 1 44 rfl rfl, List.forall_mem_cons.mpr ⟨wi 1 45 rfl rfl, List.forall_mem_cons.mpr ⟨wi 1 46 rfl rfl, List.forall_mem_cons.mpr ⟨wi 1 47 rfl rfl, List.forall_mem_cons.mpr ⟨wi 1 48 rfl rfl, List.forall_mem_cons.mpr ⟨wi 1 49 rfl rfl, List.forall_mem_cons.mpr ⟨wi 1 50 rfl rfl, List.forall_mem_cons.mpr ⟨wi 1 51 rfl rfl, List.forall_mem_cons.mpr ⟨wi 1 52 rfl rfl, List.forall_mem_cons.mpr ⟨wi 1 53 rfl rfl, List.forall_mem_cons.mpr ⟨wi 1 54 rfl rfl, List.forall_mem_cons.mpr ⟨wi 1 55 rfl rfl, List.forall_mem_cons.mpr ⟨wi 1 56 rfl rfl, List.forall_mem_cons.mpr ⟨wi 1 57 rfl rfl, List.forall_mem_cons.mpr ⟨wi 1 58 rfl rfl, List.forall_mem_cons.mpr ⟨wi 1 59 rfl rfl, List.forall_mem_cons.mpr ⟨wi 1 74 rfl rfl, List.forall_mem_cons.mpr ⟨wi 1 75 rfl rfl, List.forall_mem_cons.mpr ⟨wi 1 76 rfl rfl, List.forall_mem_cons.mpr ⟨wi 1 77 rfl rfl, List.forall_mem_cons.mpr ⟨wi 1 78 rfl rfl, List.forall_mem_cons.mpr ⟨wi 1 79 rfl rfl, List.forall_mem_cons.mpr ⟨wi 1 80 rfl rfl, List.forall_mem_cons.mpr ⟨wi 1 81 rfl rfl, List.forall_mem_cons.mpr ⟨wi 1 82 rfl rfl, List.forall_mem_cons.mpr ⟨wi 1 83 rfl rfl, List.forall_mem_cons.mpr ⟨wi 1 84 rfl rfl, List.forall_mem_cons.mpr ⟨wi 1 85 rfl rfl, List.forall_mem_cons.mpr ⟨wi 1 86 rfl rfl, List.forall_mem_cons.mpr ⟨wi 1 87 rfl rfl, List.forall_mem_cons.mpr ⟨wi 1 88 rfl rfl, List.forall_mem_cons.mpr ⟨wi 1 89 rfl rfl, List.forall_mem_cons.mpr ⟨wi 1 90 rfl rfl, List.forall_mem_cons.mpr ⟨wi 1 91 rfl rfl, List.forall_mem_cons.mpr ⟨wi 1 110 rfl rfl, List.forall_mem_cons.mpr ⟨wi 1 111 rfl rfl, List.forall_mem_cons.mpr ⟨wi 1 112 rfl rfl, List.forall_mem_cons.mpr ⟨wi 1 113 rfl rfl, List.forall_mem_cons.mpr ⟨wi 1 114 rfl rfl, List.forall_mem_cons.mpr ⟨wi 1 115 rfl rfl, List.forall_mem_cons.mpr ⟨wi 1 116 rfl rfl, List.forall_mem_cons.mpr ⟨wi 1 117 rfl rfl, List.forall_mem_cons.mpr ⟨wi 1 134 rfl rfl, List.forall_mem_cons.mpr ⟨wi 1 135 rfl rfl, List.forall_mem_cons.mpr ⟨wi 1 136 rfl rfl, List.forall_mem_cons.mpr ⟨wi 1 137 rfl rfl, List.forall_mem_cons.mpr ⟨wi 1 138 rfl rfl, List.forall_mem_cons.mpr ⟨wi 1 154 rfl rfl, List.forall_mem_cons.mpr ⟨wi 1 155 rfl rfl, List.forall_mem_cons.mpr ⟨wi 1 156 rfl rfl, List.forall_mem_cons.mpr ⟨wi 1 157 rfl rfl, List.forall_mem_cons.mpr ⟨wi 1 158 rfl rfl, List.forall_mem_cons.mpr ⟨wi 1 174 rfl rfl, List.forall_mem_cons.mpr ⟨wi 1 175 rfl rfl, List.forall_mem_cons.mpr ⟨wi 1 187 rfl rfl, List.forall_mem_cons.mpr ⟨wi 1 188 rfl rfl, List.forall_mem_cons.mpr ⟨wi 1 189 rfl rfl, List.forall_mem_cons.mpr ⟨wi 1 190 rfl rfl, List.forall_mem_cons.mpr ⟨wi 1 191 rfl rfl, List.forall_mem_cons.mpr ⟨wi 1 192 rfl rfl, List.forall_mem_cons.mpr ⟨wi 1 204 rfl rfl, List.forall_mem_cons.mpr ⟨wi 1 205 rfl rfl, List.forall_mem_cons.mpr ⟨wi 1 206 rfl rfl, List.forall_mem_cons.mpr ⟨wi 1 207 rfl rfl, List.forall_mem_cons.mpr ⟨wi 1 208 rfl rfl, List.forall_mem_cons.mpr ⟨wi 1 209 rfl rfl, List.forall_mem_cons.mpr ⟨wi 1 210 rfl rfl, List.forall_mem_cons.mpr ⟨wi 1 211 rfl rfl, List.forall_mem_cons.mpr ⟨wi 1 212 rfl rfl, List.forall_mem_cons.mpr ⟨wi 1 213 rfl rfl, List.forall_mem_cons.mpr ⟨wi 4 161 rfl rfl, List.forall_mem_cons.mpr ⟨wi 4 162 rfl rfl, List.forall_mem_cons.mpr ⟨wi 4 163 rfl rfl, List.forall_mem_cons.mpr ⟨wi 4 164 rfl rfl, List.forall_mem_cons.mpr ⟨wi 4 165 rfl rfl, List.forall_mem_cons.mpr ⟨wi 4 166 rfl rfl, List.forall_mem_cons.mpr ⟨wi 4 167 rfl rfl, List.forall_mem_cons.mpr ⟨wi 4 168 rfl rfl, List.forall_mem_cons.mpr ⟨wi 4 169 rfl rfl, List.forall_mem_cons.mpr ⟨wi 4 170 rfl rfl, List.forall_mem_cons.mpr ⟨wi 4 171 rfl rfl, List.forall_mem_cons.mpr ⟨wi 4 172 rfl rfl, List.forall_mem_cons.mpr ⟨wi 4 173 rfl rfl, List.forall_mem_cons.mpr ⟨wi 4 174 rfl rfl, List.forall_mem_cons.mpr ⟨wi 4 175 rfl rfl, List.forall_mem_cons.mpr ⟨wi 4 176 rfl rfl, List.forall_mem_cons.mpr ⟨wi 4 177 rfl rfl, List.forall_mem_cons.mpr ⟨wi 4 178 rfl rfl, List.forall_mem_cons.mpr ⟨wi 4 179 rfl rfl, List.forall_mem_cons.mpr ⟨wi 4 180 rfl rfl, List.forall_mem_cons.mpr ⟨wi 4 181 rfl rfl, List.forall_mem_cons.mpr ⟨wi 4 182 rfl rfl, List.forall_mem_cons.mpr ⟨wi 4 183 rfl rfl, List.forall_mem_cons.mpr ⟨wi 4 184 rfl rfl, List.forall_mem_cons.mpr ⟨wi 4 185 rfl rfl, List.forall_mem_cons.mpr ⟨wi 4 186 rfl rfl, fun _ h => absurd h List.not_mem_nil⟩⟩⟩⟩⟩⟩⟩⟩⟩⟩⟩⟩⟩⟩⟩⟩⟩⟩⟩⟩⟩⟩⟩⟩⟩⟩⟩⟩⟩⟩⟩⟩⟩⟩⟩⟩⟩⟩⟩⟩⟩⟩⟩⟩⟩⟩⟩⟩⟩⟩⟩⟩⟩⟩⟩⟩⟩⟩⟩⟩⟩⟩⟩⟩⟩⟩⟩⟩⟩⟩⟩⟩⟩⟩⟩⟩⟩⟩⟩⟩⟩⟩⟩⟩⟩⟩⟩⟩⟩⟩⟩⟩⟩⟩⟩⟩⟩⟩⟩⟩⟩
def lkf (o i ci j : Nat) : Bool := LKL.contains (o, i, ci, j)
theorem lkf_ok {o i ci j : Nat} (h : lkf o i ci j = true) : Cond.fieldLink (RN o) i (cT ci j).1 (cT ci j).2.1 (cT ci j).2.2.1 ∈ GW := LKL_ok (o, i, ci, j) (List.contains_iff_mem.mp h)
def gsN (r : Nat) : String := if r = 81 then "ABOVE" else "BODIES"
def GSL : List (Nat × Nat × Nat × Nat) := [(7, 331, 81, 0), (4, 40, 82, 1), (4, 43, 81, 1)]
def GSP (t : Nat × Nat × Nat × Nat) : Prop := (t.2.2.1 = 81 ∨ t.2.2.1 = 82) ∧ (if t.2.2.2 = 0 then Cond.fieldLink (RN t.1) t.2.1 "EveryonesThirdWord" (gsN t.2.2.1) "[I" ∈ GW else Cond.fieldLinkNest (RN t.1) t.2.1 "EveryonesThirdWord" (gsN t.2.2.1) "[I" "EveryonesThirdWord" ∈ lw_tbl.filter nestWord)
set_option maxRecDepth 100000 in
theorem GSL_ok : ∀ t ∈ GSL, GSP t :=
  List.forall_mem_cons.mpr ⟨⟨Or.inl rfl, wi 2 76 rfl rfl⟩, List.forall_mem_cons.mpr ⟨⟨Or.inr rfl, wn 4 114 rfl rfl⟩, List.forall_mem_cons.mpr ⟨⟨Or.inl rfl, wn 4 116 rfl rfl⟩, fun _ h => absurd h List.not_mem_nil⟩⟩⟩
set_option maxRecDepth 100000 in
theorem w_max : Cond.static Lib.Math.max.name ∈ GW ∧ Cond.initialized "java/lang/Math" ∈ GW ∧ Cond.code Lib.Math.max.name Lib.Math.max.code 2 (some .int) ∈ GW := ⟨wi 2 96 rfl rfl, wi 1 11 rfl rfl, wi 2 97 rfl rfl⟩
set_option maxRecDepth 100000 in
theorem w_min : Cond.static Lib.Math.min.name ∈ GW ∧ Cond.initialized "java/lang/Math" ∈ GW ∧ Cond.code Lib.Math.min.name Lib.Math.min.code 2 (some .int) ∈ GW := ⟨wi 2 105 rfl rfl, wi 1 11 rfl rfl, wi 2 106 rfl rfl⟩
def MLL : List (Nat × Nat × Nat) := [(7, 267, 3), (7, 353, 4), (1, 80, 3), (8, 241, 3), (7, 105, 1), (2, 33, 1), (0, 43, 1), (1, 100, 1)]
def mlN (k : Nat) : MethodName := if k = 3 then Lib.Math.max.name else if k = 4 then Lib.Math.min.name else arraycopyName
def MLP (t : Nat × Nat × Nat) : Prop := Cond.methodLink (RN t.1) t.2.1 (mlN t.2.2) ∈ GW
set_option maxRecDepth 100000 in
theorem MLL_ok : ∀ t ∈ MLL, MLP t :=
  List.forall_mem_cons.mpr ⟨wi 2 95 rfl rfl, List.forall_mem_cons.mpr ⟨wi 2 104 rfl rfl, List.forall_mem_cons.mpr ⟨wi 4 4 rfl rfl, List.forall_mem_cons.mpr ⟨wi 6 28 rfl rfl, List.forall_mem_cons.mpr ⟨wi 2 39 rfl rfl, List.forall_mem_cons.mpr ⟨wi 2 198 rfl rfl, List.forall_mem_cons.mpr ⟨wi 3 96 rfl rfl, List.forall_mem_cons.mpr ⟨wi 4 42 rfl rfl, fun _ h => absurd h List.not_mem_nil⟩⟩⟩⟩⟩⟩⟩⟩
set_option maxRecDepth 100000 in
theorem us_0 : ∀ w ∈ u_ws RX0 TX0 4, w ∈ GW := by
  show ∀ w ∈ [u_lay RX0 TX0 0, u_lay RX0 TX0 1, u_lay RX0 TX0 2, u_lay RX0 TX0 3], w ∈ GW
  exact List.forall_mem_cons.mpr ⟨wi 1 159 rfl rfl, List.forall_mem_cons.mpr ⟨wi 1 161 rfl rfl, List.forall_mem_cons.mpr ⟨wi 1 163 rfl rfl, List.forall_mem_cons.mpr ⟨wi 1 165 rfl rfl, fun _ h => absurd h List.not_mem_nil⟩⟩⟩⟩
set_option maxRecDepth 100000 in
theorem us_1 : ∀ w ∈ u_ws RX1 TX1 2, w ∈ GW := by
  show ∀ w ∈ [u_lay RX1 TX1 0, u_lay RX1 TX1 1], w ∈ GW
  exact List.forall_mem_cons.mpr ⟨wi 1 176 rfl rfl, List.forall_mem_cons.mpr ⟨wi 1 178 rfl rfl, fun _ h => absurd h List.not_mem_nil⟩⟩
set_option maxRecDepth 100000 in
theorem us_2 : ∀ w ∈ u_ws RX2 TX2 5, w ∈ GW := by
  show ∀ w ∈ [u_lay RX2 TX2 0, u_lay RX2 TX2 1, u_lay RX2 TX2 2, u_lay RX2 TX2 3, u_lay RX2 TX2 4], w ∈ GW
  exact List.forall_mem_cons.mpr ⟨wi 1 92 rfl rfl, List.forall_mem_cons.mpr ⟨wi 1 94 rfl rfl, List.forall_mem_cons.mpr ⟨wi 1 96 rfl rfl, List.forall_mem_cons.mpr ⟨wi 1 98 rfl rfl, List.forall_mem_cons.mpr ⟨wi 1 100 rfl rfl, fun _ h => absurd h List.not_mem_nil⟩⟩⟩⟩⟩
set_option maxRecDepth 100000 in
theorem us_3 : ∀ w ∈ u_ws RX3 TX3 6, w ∈ GW := by
  show ∀ w ∈ [u_lay RX3 TX3 0, u_lay RX3 TX3 1, u_lay RX3 TX3 2, u_lay RX3 TX3 3, u_lay RX3 TX3 4, u_lay RX3 TX3 5], w ∈ GW
  exact List.forall_mem_cons.mpr ⟨wi 1 60 rfl rfl, List.forall_mem_cons.mpr ⟨wi 1 62 rfl rfl, List.forall_mem_cons.mpr ⟨wi 1 64 rfl rfl, List.forall_mem_cons.mpr ⟨wi 1 66 rfl rfl, List.forall_mem_cons.mpr ⟨wi 1 68 rfl rfl, List.forall_mem_cons.mpr ⟨wi 1 70 rfl rfl, fun _ h => absurd h List.not_mem_nil⟩⟩⟩⟩⟩⟩
set_option maxRecDepth 100000 in
theorem us_4 : ∀ w ∈ u_ws RX4 TX4 5, w ∈ GW := by
  show ∀ w ∈ [u_lay RX4 TX4 0, u_lay RX4 TX4 1, u_lay RX4 TX4 2, u_lay RX4 TX4 3, u_lay RX4 TX4 4], w ∈ GW
  exact List.forall_mem_cons.mpr ⟨wi 1 193 rfl rfl, List.forall_mem_cons.mpr ⟨wi 1 195 rfl rfl, List.forall_mem_cons.mpr ⟨wi 1 197 rfl rfl, List.forall_mem_cons.mpr ⟨wi 1 199 rfl rfl, List.forall_mem_cons.mpr ⟨wi 1 201 rfl rfl, fun _ h => absurd h List.not_mem_nil⟩⟩⟩⟩⟩
set_option maxRecDepth 100000 in
theorem us_5 : ∀ w ∈ u_ws RX5 TX5 4, w ∈ GW := by
  show ∀ w ∈ [u_lay RX5 TX5 0, u_lay RX5 TX5 1, u_lay RX5 TX5 2, u_lay RX5 TX5 3], w ∈ GW
  exact List.forall_mem_cons.mpr ⟨wi 1 139 rfl rfl, List.forall_mem_cons.mpr ⟨wi 1 141 rfl rfl, List.forall_mem_cons.mpr ⟨wi 1 143 rfl rfl, List.forall_mem_cons.mpr ⟨wi 1 145 rfl rfl, fun _ h => absurd h List.not_mem_nil⟩⟩⟩⟩
set_option maxRecDepth 100000 in
theorem us_6 : ∀ w ∈ u_ws RX6 TX6 3, w ∈ GW := by
  show ∀ w ∈ [u_lay RX6 TX6 0, u_lay RX6 TX6 1, u_lay RX6 TX6 2], w ∈ GW
  exact List.forall_mem_cons.mpr ⟨wi 1 118 rfl rfl, List.forall_mem_cons.mpr ⟨wi 1 120 rfl rfl, List.forall_mem_cons.mpr ⟨wi 1 122 rfl rfl, fun _ h => absurd h List.not_mem_nil⟩⟩⟩
set_option maxRecDepth 100000 in
theorem us_7 : ∀ w ∈ u_ws RX7 TX7 10, w ∈ GW := by
  show ∀ w ∈ [u_lay RX7 TX7 0, u_lay RX7 TX7 1, u_lay RX7 TX7 2, u_lay RX7 TX7 3, u_lay RX7 TX7 4, u_lay RX7 TX7 5, u_lay RX7 TX7 6, u_lay RX7 TX7 7, u_lay RX7 TX7 8, u_lay RX7 TX7 9], w ∈ GW
  exact List.forall_mem_cons.mpr ⟨wi 1 214 rfl rfl, List.forall_mem_cons.mpr ⟨wi 1 216 rfl rfl, List.forall_mem_cons.mpr ⟨wi 1 218 rfl rfl, List.forall_mem_cons.mpr ⟨wi 1 220 rfl rfl, List.forall_mem_cons.mpr ⟨wi 1 222 rfl rfl, List.forall_mem_cons.mpr ⟨wi 1 224 rfl rfl, List.forall_mem_cons.mpr ⟨wi 1 226 rfl rfl, List.forall_mem_cons.mpr ⟨wi 1 228 rfl rfl, List.forall_mem_cons.mpr ⟨wi 1 230 rfl rfl, List.forall_mem_cons.mpr ⟨wi 1 232 rfl rfl, fun _ h => absurd h List.not_mem_nil⟩⟩⟩⟩⟩⟩⟩⟩⟩⟩
set_option maxRecDepth 100000 in
theorem us_8 : ∀ w ∈ u_ws RX8 TX8 26, w ∈ GW := by
  show ∀ w ∈ [u_lay RX8 TX8 0, u_lay RX8 TX8 1, u_lay RX8 TX8 2, u_lay RX8 TX8 3, u_lay RX8 TX8 4, u_lay RX8 TX8 5, u_lay RX8 TX8 6, u_lay RX8 TX8 7, u_lay RX8 TX8 8, u_lay RX8 TX8 9, u_lay RX8 TX8 10, u_lay RX8 TX8 11, u_lay RX8 TX8 12, u_lay RX8 TX8 13, u_lay RX8 TX8 14, u_lay RX8 TX8 15, u_lay RX8 TX8 16, u_lay RX8 TX8 17, u_lay RX8 TX8 18, u_lay RX8 TX8 19, u_lay RX8 TX8 20, u_lay RX8 TX8 21, u_lay RX8 TX8 22, u_lay RX8 TX8 23, u_lay RX8 TX8 24, u_lay RX8 TX8 25], w ∈ GW
  exact List.forall_mem_cons.mpr ⟨wi 4 187 rfl rfl, List.forall_mem_cons.mpr ⟨wi 4 189 rfl rfl, List.forall_mem_cons.mpr ⟨wi 4 191 rfl rfl, List.forall_mem_cons.mpr ⟨wi 4 193 rfl rfl, List.forall_mem_cons.mpr ⟨wi 4 195 rfl rfl, List.forall_mem_cons.mpr ⟨wi 4 197 rfl rfl, List.forall_mem_cons.mpr ⟨wi 4 199 rfl rfl, List.forall_mem_cons.mpr ⟨wi 4 201 rfl rfl, List.forall_mem_cons.mpr ⟨wi 4 203 rfl rfl, List.forall_mem_cons.mpr ⟨wi 4 205 rfl rfl, List.forall_mem_cons.mpr ⟨wi 4 207 rfl rfl, List.forall_mem_cons.mpr ⟨wi 4 209 rfl rfl, List.forall_mem_cons.mpr ⟨wi 4 211 rfl rfl, List.forall_mem_cons.mpr ⟨wi 4 213 rfl rfl, List.forall_mem_cons.mpr ⟨wi 4 215 rfl rfl, List.forall_mem_cons.mpr ⟨wi 4 217 rfl rfl, List.forall_mem_cons.mpr ⟨wi 4 219 rfl rfl, List.forall_mem_cons.mpr ⟨wi 4 221 rfl rfl, List.forall_mem_cons.mpr ⟨wi 4 223 rfl rfl, List.forall_mem_cons.mpr ⟨wi 4 225 rfl rfl, List.forall_mem_cons.mpr ⟨wi 4 227 rfl rfl, List.forall_mem_cons.mpr ⟨wi 4 229 rfl rfl, List.forall_mem_cons.mpr ⟨wi 4 231 rfl rfl, List.forall_mem_cons.mpr ⟨wi 4 233 rfl rfl, List.forall_mem_cons.mpr ⟨wi 4 235 rfl rfl, List.forall_mem_cons.mpr ⟨wi 4 237 rfl rfl, fun _ h => absurd h List.not_mem_nil⟩⟩⟩⟩⟩⟩⟩⟩⟩⟩⟩⟩⟩⟩⟩⟩⟩⟩⟩⟩⟩⟩⟩⟩⟩⟩
def CSL : List (Nat × Nat × Int32) := [(10, 265, 1431655765), (10, 266, 858993459), (10, 267, 252645135), (2, 79, 1103515245), (8, 262, 1103515245)]
def CSP (t : Nat × Nat × Int32) : Prop := Cond.constant (RN t.1) t.2.1 t.2.2 ∈ GW
set_option maxRecDepth 100000 in
theorem CSL_ok : ∀ t ∈ CSL, CSP t :=
  List.forall_mem_cons.mpr ⟨wi 2 111 rfl rfl, List.forall_mem_cons.mpr ⟨wi 2 112 rfl rfl, List.forall_mem_cons.mpr ⟨wi 2 113 rfl rfl, List.forall_mem_cons.mpr ⟨wi 4 89 rfl rfl, List.forall_mem_cons.mpr ⟨wi 6 85 rfl rfl, fun _ h => absurd h List.not_mem_nil⟩⟩⟩⟩⟩
def CLL : List (Nat × Nat × Int64) := [(11, 314, 6148914691236517205), (11, 316, 3689348814741910323), (11, 318, 1085102592571150095), (9, 18, 4294967295)]
def CLP (t : Nat × Nat × Int64) : Prop := Cond.constantLong (RN t.1) t.2.1 t.2.2 ∈ GW
set_option maxRecDepth 100000 in
theorem CLL_ok : ∀ t ∈ CLL, CLP t :=
  List.forall_mem_cons.mpr ⟨wi 4 1 rfl rfl, List.forall_mem_cons.mpr ⟨wi 4 2 rfl rfl, List.forall_mem_cons.mpr ⟨wi 4 3 rfl rfl, List.forall_mem_cons.mpr ⟨wi 6 126 rfl rfl, fun _ h => absurd h List.not_mem_nil⟩⟩⟩⟩
def STL : List (Nat × Nat × Nat × String) := [(5, 75, 84, "man"), (5, 77, 85, "meet"), (5, 79, 86, "part"), (5, 81, 87, "word"), (5, 83, 88, "hush"), (8, 164, 85, "meet"), (8, 170, 84, "man"), (8, 178, 86, "part"), (8, 180, 87, "word"), (8, 181, 88, "hush")]
set_option maxRecDepth 100000 in
theorem w_acn : Cond.native arraycopyName ∈ GW := wi 2 41 rfl rfl
set_option maxRecDepth 100000 in
theorem w_acs : Cond.static arraycopyName ∈ GW := wi 2 40 rfl rfl
set_option maxRecDepth 100000 in
theorem w_aci : Cond.initialized "java/lang/System" ∈ GW := wi 1 10 rfl rfl
