section
-- ===== PART A: goes FIRST, ahead of the names: the tables' words, and 'selects' of the private methods out of them =====
/-- a private method of a class that the tables say can be made, by its rows of tables_1 -/
def lw_okq (q : MethodName × Nat) : Prop := (q.1.cls ≠ "java/lang/invoke/MethodHandle" ∧ q.1.cls ≠ "java/lang/invoke/VarHandle") ∧ Cond.instantiable q.1.cls q.2 ∈ tables_1 ∧ Cond.privateMethod q.1 ∈ tables_1 ∧ Cond.instanceMethod q.1 ∈ tables_1
theorem lw_p0 : lw_okq (⟨"HandbagLady", "refuse", "(I)I"⟩, 13) := ⟨⟨by decide +kernel, by decide +kernel⟩, List.mem_of_getElem? (i := 9) (by decide +kernel), List.mem_of_getElem? (i := 169) (by decide +kernel), List.mem_of_getElem? (i := 170) (by decide +kernel)⟩
theorem lw_p1 : lw_okq (⟨"HandbagLady", "formFault", "(I)I"⟩, 13) := ⟨⟨by decide +kernel, by decide +kernel⟩, List.mem_of_getElem? (i := 9) (by decide +kernel), List.mem_of_getElem? (i := 177) (by decide +kernel), List.mem_of_getElem? (i := 178) (by decide +kernel)⟩
theorem lw_p2 : lw_okq (⟨"HandbagLady", "think", "()V"⟩, 13) := ⟨⟨by decide +kernel, by decide +kernel⟩, List.mem_of_getElem? (i := 9) (by decide +kernel), List.mem_of_getElem? (i := 184) (by decide +kernel), List.mem_of_getElem? (i := 185) (by decide +kernel)⟩
theorem lw_p3 : lw_okq (⟨"HandbagLady$Street", "copyFrom", "(LHandbagLady$Street;)V"⟩, 19) := ⟨⟨by decide +kernel, by decide +kernel⟩, List.mem_of_getElem? (i := 17) (by decide +kernel), List.mem_of_getElem? (i := 188) (by decide +kernel), List.mem_of_getElem? (i := 189) (by decide +kernel)⟩
theorem lw_p4 : lw_okq (⟨"HandbagLady$Street", "startTallies", "()V"⟩, 19) := ⟨⟨by decide +kernel, by decide +kernel⟩, List.mem_of_getElem? (i := 17) (by decide +kernel), List.mem_of_getElem? (i := 195) (by decide +kernel), List.mem_of_getElem? (i := 196) (by decide +kernel)⟩
theorem lw_p5 : lw_okq (⟨"HandbagLady", "carryOut", "(I)Z"⟩, 13) := ⟨⟨by decide +kernel, by decide +kernel⟩, List.mem_of_getElem? (i := 9) (by decide +kernel), List.mem_of_getElem? (i := 199) (by decide +kernel), List.mem_of_getElem? (i := 200) (by decide +kernel)⟩
theorem lw_p6 : lw_okq (⟨"HandbagLady", "digitAt", "(I)I"⟩, 13) := ⟨⟨by decide +kernel, by decide +kernel⟩, List.mem_of_getElem? (i := 9) (by decide +kernel), List.mem_of_getElem? (i := 203) (by decide +kernel), List.mem_of_getElem? (i := 204) (by decide +kernel)⟩
theorem lw_p7 : lw_okq (⟨"HandbagLady$Street", "addBag", "(III)I"⟩, 19) := ⟨⟨by decide +kernel, by decide +kernel⟩, List.mem_of_getElem? (i := 17) (by decide +kernel), List.mem_of_getElem? (i := 207) (by decide +kernel), List.mem_of_getElem? (i := 208) (by decide +kernel)⟩
theorem lw_p8 : lw_okq (⟨"HandbagLady$Street", "addBearer", "(III)I"⟩, 19) := ⟨⟨by decide +kernel, by decide +kernel⟩, List.mem_of_getElem? (i := 17) (by decide +kernel), List.mem_of_getElem? (i := 211) (by decide +kernel), List.mem_of_getElem? (i := 212) (by decide +kernel)⟩
theorem lw_p9 : lw_okq (⟨"HandbagLady$Street", "hand", "(II)Z"⟩, 19) := ⟨⟨by decide +kernel, by decide +kernel⟩, List.mem_of_getElem? (i := 17) (by decide +kernel), List.mem_of_getElem? (i := 215) (by decide +kernel), List.mem_of_getElem? (i := 216) (by decide +kernel)⟩
theorem lw_p10 : lw_okq (⟨"HandbagLady$Street", "hasBag", "(I)Z"⟩, 19) := ⟨⟨by decide +kernel, by decide +kernel⟩, List.mem_of_getElem? (i := 17) (by decide +kernel), List.mem_of_getElem? (i := 219) (by decide +kernel), List.mem_of_getElem? (i := 220) (by decide +kernel)⟩
theorem lw_p11 : lw_okq (⟨"HandbagLady$Street", "hasBearer", "(I)Z"⟩, 19) := ⟨⟨by decide +kernel, by decide +kernel⟩, List.mem_of_getElem? (i := 17) (by decide +kernel), List.mem_of_getElem? (i := 223) (by decide +kernel), List.mem_of_getElem? (i := 224) (by decide +kernel)⟩
theorem lw_p12 : lw_okq (⟨"HandbagLady$Street", "befriend", "(II)Z"⟩, 19) := ⟨⟨by decide +kernel, by decide +kernel⟩, List.mem_of_getElem? (i := 17) (by decide +kernel), List.mem_of_getElem? (i := 227) (by decide +kernel), List.mem_of_getElem? (i := 228) (by decide +kernel)⟩
theorem lw_p13 : lw_okq (⟨"HandbagLady$Street", "unfriend", "(I)V"⟩, 19) := ⟨⟨by decide +kernel, by decide +kernel⟩, List.mem_of_getElem? (i := 17) (by decide +kernel), List.mem_of_getElem? (i := 231) (by decide +kernel), List.mem_of_getElem? (i := 232) (by decide +kernel)⟩
theorem lw_p14 : lw_okq (⟨"HandbagLady$Street", "goHours", "(I)V"⟩, 19) := ⟨⟨by decide +kernel, by decide +kernel⟩, List.mem_of_getElem? (i := 17) (by decide +kernel), List.mem_of_getElem? (i := 235) (by decide +kernel), List.mem_of_getElem? (i := 236) (by decide +kernel)⟩
theorem lw_p15 : lw_okq (⟨"HandbagLady$Street", "go", "(I)V"⟩, 19) := ⟨⟨by decide +kernel, by decide +kernel⟩, List.mem_of_getElem? (i := 17) (by decide +kernel), List.mem_of_getElem? (i := 239) (by decide +kernel), List.mem_of_getElem? (i := 240) (by decide +kernel)⟩
def lw_privs_1 : List (MethodName × Nat) := [(⟨"HandbagLady", "refuse", "(I)I"⟩, 13), (⟨"HandbagLady", "formFault", "(I)I"⟩, 13), (⟨"HandbagLady", "think", "()V"⟩, 13), (⟨"HandbagLady$Street", "copyFrom", "(LHandbagLady$Street;)V"⟩, 19), (⟨"HandbagLady$Street", "startTallies", "()V"⟩, 19), (⟨"HandbagLady", "carryOut", "(I)Z"⟩, 13), (⟨"HandbagLady", "digitAt", "(I)I"⟩, 13), (⟨"HandbagLady$Street", "addBag", "(III)I"⟩, 19), (⟨"HandbagLady$Street", "addBearer", "(III)I"⟩, 19), (⟨"HandbagLady$Street", "hand", "(II)Z"⟩, 19), (⟨"HandbagLady$Street", "hasBag", "(I)Z"⟩, 19), (⟨"HandbagLady$Street", "hasBearer", "(I)Z"⟩, 19), (⟨"HandbagLady$Street", "befriend", "(II)Z"⟩, 19), (⟨"HandbagLady$Street", "unfriend", "(I)V"⟩, 19), (⟨"HandbagLady$Street", "goHours", "(I)V"⟩, 19), (⟨"HandbagLady$Street", "go", "(I)V"⟩, 19)]
theorem lw_r1 : ∀ q ∈ lw_privs_1, lw_okq q := List.forall_mem_cons.mpr ⟨lw_p0, List.forall_mem_cons.mpr ⟨lw_p1, List.forall_mem_cons.mpr ⟨lw_p2, List.forall_mem_cons.mpr ⟨lw_p3, List.forall_mem_cons.mpr ⟨lw_p4, List.forall_mem_cons.mpr ⟨lw_p5, List.forall_mem_cons.mpr ⟨lw_p6, List.forall_mem_cons.mpr ⟨lw_p7, List.forall_mem_cons.mpr ⟨lw_p8, List.forall_mem_cons.mpr ⟨lw_p9, List.forall_mem_cons.mpr ⟨lw_p10, List.forall_mem_cons.mpr ⟨lw_p11, List.forall_mem_cons.mpr ⟨lw_p12, List.forall_mem_cons.mpr ⟨lw_p13, List.forall_mem_cons.mpr ⟨lw_p14, List.forall_mem_cons.mpr ⟨lw_p15, fun _ h => absurd h List.not_mem_nil⟩⟩⟩⟩⟩⟩⟩⟩⟩⟩⟩⟩⟩⟩⟩⟩
theorem lw_p16 : lw_okq (⟨"HandbagLady$Street", "isLed", "(I)Z"⟩, 19) := ⟨⟨by decide +kernel, by decide +kernel⟩, List.mem_of_getElem? (i := 17) (by decide +kernel), List.mem_of_getElem? (i := 243) (by decide +kernel), List.mem_of_getElem? (i := 244) (by decide +kernel)⟩
theorem lw_p17 : lw_okq (⟨"HandbagLady$Street", "pullOf", "(I)I"⟩, 19) := ⟨⟨by decide +kernel, by decide +kernel⟩, List.mem_of_getElem? (i := 17) (by decide +kernel), List.mem_of_getElem? (i := 247) (by decide +kernel), List.mem_of_getElem? (i := 248) (by decide +kernel)⟩
theorem lw_p18 : lw_okq (⟨"HandbagLady$Street", "keeperOfFriend", "(I)I"⟩, 19) := ⟨⟨by decide +kernel, by decide +kernel⟩, List.mem_of_getElem? (i := 17) (by decide +kernel), List.mem_of_getElem? (i := 251) (by decide +kernel), List.mem_of_getElem? (i := 252) (by decide +kernel)⟩
theorem lw_p19 : lw_okq (⟨"HandbagLady$Street", "pullBy", "(IIZ)I"⟩, 19) := ⟨⟨by decide +kernel, by decide +kernel⟩, List.mem_of_getElem? (i := 17) (by decide +kernel), List.mem_of_getElem? (i := 255) (by decide +kernel), List.mem_of_getElem? (i := 256) (by decide +kernel)⟩
theorem lw_p20 : lw_okq (⟨"HandbagLady$Street", "goalOf", "(II)I"⟩, 19) := ⟨⟨by decide +kernel, by decide +kernel⟩, List.mem_of_getElem? (i := 17) (by decide +kernel), List.mem_of_getElem? (i := 259) (by decide +kernel), List.mem_of_getElem? (i := 260) (by decide +kernel)⟩
theorem lw_p21 : lw_okq (⟨"HandbagLady$Street", "paceOf", "(I)I"⟩, 19) := ⟨⟨by decide +kernel, by decide +kernel⟩, List.mem_of_getElem? (i := 17) (by decide +kernel), List.mem_of_getElem? (i := 263) (by decide +kernel), List.mem_of_getElem? (i := 264) (by decide +kernel)⟩
theorem lw_p22 : lw_okq (⟨"HandbagLady$Street", "growHeld", "()V"⟩, 19) := ⟨⟨by decide +kernel, by decide +kernel⟩, List.mem_of_getElem? (i := 17) (by decide +kernel), List.mem_of_getElem? (i := 284) (by decide +kernel), List.mem_of_getElem? (i := 285) (by decide +kernel)⟩
theorem lw_p23 : lw_okq (⟨"HandbagLady$Street", "countSnaps", "()V"⟩, 19) := ⟨⟨by decide +kernel, by decide +kernel⟩, List.mem_of_getElem? (i := 17) (by decide +kernel), List.mem_of_getElem? (i := 288) (by decide +kernel), List.mem_of_getElem? (i := 289) (by decide +kernel)⟩
theorem lw_p24 : lw_okq (⟨"HandbagLady", "forgetPast", "()V"⟩, 13) := ⟨⟨by decide +kernel, by decide +kernel⟩, List.mem_of_getElem? (i := 9) (by decide +kernel), List.mem_of_getElem? (i := 292) (by decide +kernel), List.mem_of_getElem? (i := 293) (by decide +kernel)⟩
theorem lw_p25 : lw_okq (⟨"HandbagLady$Street", "bagsHad", "()I"⟩, 19) := ⟨⟨by decide +kernel, by decide +kernel⟩, List.mem_of_getElem? (i := 17) (by decide +kernel), List.mem_of_getElem? (i := 312) (by decide +kernel), List.mem_of_getElem? (i := 313) (by decide +kernel)⟩
theorem lw_p26 : lw_okq (⟨"HandbagLady$Street", "allBreath", "()I"⟩, 19) := ⟨⟨by decide +kernel, by decide +kernel⟩, List.mem_of_getElem? (i := 17) (by decide +kernel), List.mem_of_getElem? (i := 316) (by decide +kernel), List.mem_of_getElem? (i := 317) (by decide +kernel)⟩
theorem lw_p27 : lw_okq (⟨"HandbagLady$Street", "ledOnes", "()I"⟩, 19) := ⟨⟨by decide +kernel, by decide +kernel⟩, List.mem_of_getElem? (i := 17) (by decide +kernel), List.mem_of_getElem? (i := 320) (by decide +kernel), List.mem_of_getElem? (i := 321) (by decide +kernel)⟩
theorem lw_p28 : lw_okq (⟨"HandbagLady", "remember", "()V"⟩, 13) := ⟨⟨by decide +kernel, by decide +kernel⟩, List.mem_of_getElem? (i := 9) (by decide +kernel), List.mem_of_getElem? (i := 336) (by decide +kernel), List.mem_of_getElem? (i := 337) (by decide +kernel)⟩
theorem lw_p29 : lw_okq (⟨"HandbagLady", "areTwo", "(II)Z"⟩, 13) := ⟨⟨by decide +kernel, by decide +kernel⟩, List.mem_of_getElem? (i := 9) (by decide +kernel), List.mem_of_getElem? (i := 387) (by decide +kernel), List.mem_of_getElem? (i := 388) (by decide +kernel)⟩
theorem lw_p30 : lw_okq (⟨"HandbagLady", "firstMeeting", "(III)I"⟩, 13) := ⟨⟨by decide +kernel, by decide +kernel⟩, List.mem_of_getElem? (i := 9) (by decide +kernel), List.mem_of_getElem? (i := 391) (by decide +kernel), List.mem_of_getElem? (i := 392) (by decide +kernel)⟩
theorem lw_p31 : lw_okq (⟨"HandbagLady", "startPlaceTally", "()V"⟩, 13) := ⟨⟨by decide +kernel, by decide +kernel⟩, List.mem_of_getElem? (i := 9) (by decide +kernel), List.mem_of_getElem? (i := 405) (by decide +kernel), List.mem_of_getElem? (i := 406) (by decide +kernel)⟩
def lw_privs_2 : List (MethodName × Nat) := [(⟨"HandbagLady$Street", "isLed", "(I)Z"⟩, 19), (⟨"HandbagLady$Street", "pullOf", "(I)I"⟩, 19), (⟨"HandbagLady$Street", "keeperOfFriend", "(I)I"⟩, 19), (⟨"HandbagLady$Street", "pullBy", "(IIZ)I"⟩, 19), (⟨"HandbagLady$Street", "goalOf", "(II)I"⟩, 19), (⟨"HandbagLady$Street", "paceOf", "(I)I"⟩, 19), (⟨"HandbagLady$Street", "growHeld", "()V"⟩, 19), (⟨"HandbagLady$Street", "countSnaps", "()V"⟩, 19), (⟨"HandbagLady", "forgetPast", "()V"⟩, 13), (⟨"HandbagLady$Street", "bagsHad", "()I"⟩, 19), (⟨"HandbagLady$Street", "allBreath", "()I"⟩, 19), (⟨"HandbagLady$Street", "ledOnes", "()I"⟩, 19), (⟨"HandbagLady", "remember", "()V"⟩, 13), (⟨"HandbagLady", "areTwo", "(II)Z"⟩, 13), (⟨"HandbagLady", "firstMeeting", "(III)I"⟩, 13), (⟨"HandbagLady", "startPlaceTally", "()V"⟩, 13)]
theorem lw_r2 : ∀ q ∈ lw_privs_2, lw_okq q := List.forall_mem_cons.mpr ⟨lw_p16, List.forall_mem_cons.mpr ⟨lw_p17, List.forall_mem_cons.mpr ⟨lw_p18, List.forall_mem_cons.mpr ⟨lw_p19, List.forall_mem_cons.mpr ⟨lw_p20, List.forall_mem_cons.mpr ⟨lw_p21, List.forall_mem_cons.mpr ⟨lw_p22, List.forall_mem_cons.mpr ⟨lw_p23, List.forall_mem_cons.mpr ⟨lw_p24, List.forall_mem_cons.mpr ⟨lw_p25, List.forall_mem_cons.mpr ⟨lw_p26, List.forall_mem_cons.mpr ⟨lw_p27, List.forall_mem_cons.mpr ⟨lw_p28, List.forall_mem_cons.mpr ⟨lw_p29, List.forall_mem_cons.mpr ⟨lw_p30, List.forall_mem_cons.mpr ⟨lw_p31, fun _ h => absurd h List.not_mem_nil⟩⟩⟩⟩⟩⟩⟩⟩⟩⟩⟩⟩⟩⟩⟩⟩
theorem lw_p32 : lw_okq (⟨"HandbagLady", "tallyPlaces", "()V"⟩, 13) := ⟨⟨by decide +kernel, by decide +kernel⟩, List.mem_of_getElem? (i := 9) (by decide +kernel), List.mem_of_getElem? (i := 409) (by decide +kernel), List.mem_of_getElem? (i := 410) (by decide +kernel)⟩
theorem lw_p33 : lw_okq (⟨"HandbagLady", "fullestPlace", "()I"⟩, 13) := ⟨⟨by decide +kernel, by decide +kernel⟩, List.mem_of_getElem? (i := 9) (by decide +kernel), List.mem_of_getElem? (i := 413) (by decide +kernel), List.mem_of_getElem? (i := 414) (by decide +kernel)⟩
theorem lw_p34 : lw_okq (⟨"HandbagLady", "firstOutOfBreath", "()I"⟩, 13) := ⟨⟨by decide +kernel, by decide +kernel⟩, List.mem_of_getElem? (i := 9) (by decide +kernel), List.mem_of_getElem? (i := 421) (by decide +kernel), List.mem_of_getElem? (i := 422) (by decide +kernel)⟩
theorem lw_p35 : lw_okq (⟨"HandbagLady", "whereColonel", "(I)I"⟩, 13) := ⟨⟨by decide +kernel, by decide +kernel⟩, List.mem_of_getElem? (i := 9) (by decide +kernel), List.mem_of_getElem? (i := 429) (by decide +kernel), List.mem_of_getElem? (i := 430) (by decide +kernel)⟩
theorem lw_p36 : lw_okq (⟨"HandbagLady", "leastLed", "()I"⟩, 13) := ⟨⟨by decide +kernel, by decide +kernel⟩, List.mem_of_getElem? (i := 9) (by decide +kernel), List.mem_of_getElem? (i := 434) (by decide +kernel), List.mem_of_getElem? (i := 435) (by decide +kernel)⟩
theorem lw_p37 : lw_okq (⟨"HandbagLady$Street", "allAtOnePlace", "()Z"⟩, 19) := ⟨⟨by decide +kernel, by decide +kernel⟩, List.mem_of_getElem? (i := 17) (by decide +kernel), List.mem_of_getElem? (i := 466) (by decide +kernel), List.mem_of_getElem? (i := 467) (by decide +kernel)⟩
theorem lw_p38 : lw_okq (⟨"HandbagLady", "firstAt", "(III)I"⟩, 13) := ⟨⟨by decide +kernel, by decide +kernel⟩, List.mem_of_getElem? (i := 9) (by decide +kernel), List.mem_of_getElem? (i := 479) (by decide +kernel), List.mem_of_getElem? (i := 480) (by decide +kernel)⟩
theorem lw_p39 : lw_okq (⟨"HandbagLady$Street", "allLedHours", "()I"⟩, 19) := ⟨⟨by decide +kernel, by decide +kernel⟩, List.mem_of_getElem? (i := 17) (by decide +kernel), List.mem_of_getElem? (i := 507) (by decide +kernel), List.mem_of_getElem? (i := 508) (by decide +kernel)⟩
theorem lw_p40 : lw_okq (⟨"HandbagLady$Street", "changeBags", "(II)V"⟩, 19) := ⟨⟨by decide +kernel, by decide +kernel⟩, List.mem_of_getElem? (i := 17) (by decide +kernel), List.mem_of_getElem? (i := 511) (by decide +kernel), List.mem_of_getElem? (i := 512) (by decide +kernel)⟩
theorem lw_p41 : lw_okq (⟨"HandbagLady$Street", "startKeeping", "(I)V"⟩, 19) := ⟨⟨by decide +kernel, by decide +kernel⟩, List.mem_of_getElem? (i := 17) (by decide +kernel), List.mem_of_getElem? (i := 515) (by decide +kernel), List.mem_of_getElem? (i := 516) (by decide +kernel)⟩
theorem lw_p42 : lw_okq (⟨"HandbagLady", "strongestWilled", "()I"⟩, 13) := ⟨⟨by decide +kernel, by decide +kernel⟩, List.mem_of_getElem? (i := 9) (by decide +kernel), List.mem_of_getElem? (i := 523) (by decide +kernel), List.mem_of_getElem? (i := 524) (by decide +kernel)⟩
theorem lw_p43 : lw_okq (⟨"HandbagLady", "strongestBag", "()I"⟩, 13) := ⟨⟨by decide +kernel, by decide +kernel⟩, List.mem_of_getElem? (i := 9) (by decide +kernel), List.mem_of_getElem? (i := 527) (by decide +kernel), List.mem_of_getElem? (i := 528) (by decide +kernel)⟩
theorem lw_p44 : lw_okq (⟨"HandbagLady$Ways", "start", "(II)V"⟩, 5) := ⟨⟨by decide +kernel, by decide +kernel⟩, List.mem_of_getElem? (i := 102) (by decide +kernel), List.mem_of_getElem? (i := 545) (by decide +kernel), List.mem_of_getElem? (i := 546) (by decide +kernel)⟩
theorem lw_p45 : lw_okq (⟨"HandbagLady$Ways", "decode", "(I)Z"⟩, 5) := ⟨⟨by decide +kernel, by decide +kernel⟩, List.mem_of_getElem? (i := 102) (by decide +kernel), List.mem_of_getElem? (i := 550) (by decide +kernel), List.mem_of_getElem? (i := 551) (by decide +kernel)⟩
theorem lw_p46 : lw_okq (⟨"HandbagLady", "thinkGiven", "()V"⟩, 13) := ⟨⟨by decide +kernel, by decide +kernel⟩, List.mem_of_getElem? (i := 9) (by decide +kernel), List.mem_of_getElem? (i := 555) (by decide +kernel), List.mem_of_getElem? (i := 556) (by decide +kernel)⟩
theorem lw_p47 : lw_okq (⟨"HandbagLady$Street", "takeAllBags", "()V"⟩, 19) := ⟨⟨by decide +kernel, by decide +kernel⟩, List.mem_of_getElem? (i := 17) (by decide +kernel), List.mem_of_getElem? (i := 559) (by decide +kernel), List.mem_of_getElem? (i := 560) (by decide +kernel)⟩
def lw_privs_3 : List (MethodName × Nat) := [(⟨"HandbagLady", "tallyPlaces", "()V"⟩, 13), (⟨"HandbagLady", "fullestPlace", "()I"⟩, 13), (⟨"HandbagLady", "firstOutOfBreath", "()I"⟩, 13), (⟨"HandbagLady", "whereColonel", "(I)I"⟩, 13), (⟨"HandbagLady", "leastLed", "()I"⟩, 13), (⟨"HandbagLady$Street", "allAtOnePlace", "()Z"⟩, 19), (⟨"HandbagLady", "firstAt", "(III)I"⟩, 13), (⟨"HandbagLady$Street", "allLedHours", "()I"⟩, 19), (⟨"HandbagLady$Street", "changeBags", "(II)V"⟩, 19), (⟨"HandbagLady$Street", "startKeeping", "(I)V"⟩, 19), (⟨"HandbagLady", "strongestWilled", "()I"⟩, 13), (⟨"HandbagLady", "strongestBag", "()I"⟩, 13), (⟨"HandbagLady$Ways", "start", "(II)V"⟩, 5), (⟨"HandbagLady$Ways", "decode", "(I)Z"⟩, 5), (⟨"HandbagLady", "thinkGiven", "()V"⟩, 13), (⟨"HandbagLady$Street", "takeAllBags", "()V"⟩, 19)]
theorem lw_r3 : ∀ q ∈ lw_privs_3, lw_okq q := List.forall_mem_cons.mpr ⟨lw_p32, List.forall_mem_cons.mpr ⟨lw_p33, List.forall_mem_cons.mpr ⟨lw_p34, List.forall_mem_cons.mpr ⟨lw_p35, List.forall_mem_cons.mpr ⟨lw_p36, List.forall_mem_cons.mpr ⟨lw_p37, List.forall_mem_cons.mpr ⟨lw_p38, List.forall_mem_cons.mpr ⟨lw_p39, List.forall_mem_cons.mpr ⟨lw_p40, List.forall_mem_cons.mpr ⟨lw_p41, List.forall_mem_cons.mpr ⟨lw_p42, List.forall_mem_cons.mpr ⟨lw_p43, List.forall_mem_cons.mpr ⟨lw_p44, List.forall_mem_cons.mpr ⟨lw_p45, List.forall_mem_cons.mpr ⟨lw_p46, List.forall_mem_cons.mpr ⟨lw_p47, fun _ h => absurd h List.not_mem_nil⟩⟩⟩⟩⟩⟩⟩⟩⟩⟩⟩⟩⟩⟩⟩⟩
theorem lw_p48 : lw_okq (⟨"HandbagLady$Ways", "choiceOf", "(I)I"⟩, 5) := ⟨⟨by decide +kernel, by decide +kernel⟩, List.mem_of_getElem? (i := 102) (by decide +kernel), List.mem_of_getElem? (i := 563) (by decide +kernel), List.mem_of_getElem? (i := 564) (by decide +kernel)⟩
theorem lw_p49 : lw_okq (⟨"HandbagLady$Ways", "keepBest", "()V"⟩, 5) := ⟨⟨by decide +kernel, by decide +kernel⟩, List.mem_of_getElem? (i := 102) (by decide +kernel), List.mem_of_getElem? (i := 567) (by decide +kernel), List.mem_of_getElem? (i := 568) (by decide +kernel)⟩
theorem lw_p50 : lw_okq (⟨"HandbagLady$Ways", "bestBagOf", "(I)I"⟩, 5) := ⟨⟨by decide +kernel, by decide +kernel⟩, List.mem_of_getElem? (i := 102) (by decide +kernel), List.mem_of_getElem? (i := 572) (by decide +kernel), List.mem_of_getElem? (i := 573) (by decide +kernel)⟩
theorem lw_p51 : lw_okq (⟨"HandbagLady", "ledHoursBelow", "(II)I"⟩, 13) := ⟨⟨by decide +kernel, by decide +kernel⟩, List.mem_of_getElem? (i := 9) (by decide +kernel), List.mem_of_getElem? (i := 580) (by decide +kernel), List.mem_of_getElem? (i := 581) (by decide +kernel)⟩
theorem lw_p52 : lw_okq (⟨"HandbagLady$Street", "rankOfBearer", "(I)I"⟩, 19) := ⟨⟨by decide +kernel, by decide +kernel⟩, List.mem_of_getElem? (i := 17) (by decide +kernel), List.mem_of_getElem? (i := 588) (by decide +kernel), List.mem_of_getElem? (i := 589) (by decide +kernel)⟩
theorem lw_p53 : lw_okq (⟨"HandbagLady$Street", "bagRanked", "(I)I"⟩, 19) := ⟨⟨by decide +kernel, by decide +kernel⟩, List.mem_of_getElem? (i := 17) (by decide +kernel), List.mem_of_getElem? (i := 592) (by decide +kernel), List.mem_of_getElem? (i := 593) (by decide +kernel)⟩
theorem lw_p54 : lw_okq (⟨"HandbagLady$Street", "rankOfBag", "(I)I"⟩, 19) := ⟨⟨by decide +kernel, by decide +kernel⟩, List.mem_of_getElem? (i := 17) (by decide +kernel), List.mem_of_getElem? (i := 596) (by decide +kernel), List.mem_of_getElem? (i := 597) (by decide +kernel)⟩
theorem lw_p55 : lw_okq (⟨"HandbagLady$Street", "plainPullOf", "(I)I"⟩, 19) := ⟨⟨by decide +kernel, by decide +kernel⟩, List.mem_of_getElem? (i := 17) (by decide +kernel), List.mem_of_getElem? (i := 600) (by decide +kernel), List.mem_of_getElem? (i := 601) (by decide +kernel)⟩
theorem lw_p56 : lw_okq (⟨"HandbagLady$Street", "bearerRanked", "(I)I"⟩, 19) := ⟨⟨by decide +kernel, by decide +kernel⟩, List.mem_of_getElem? (i := 17) (by decide +kernel), List.mem_of_getElem? (i := 611) (by decide +kernel), List.mem_of_getElem? (i := 612) (by decide +kernel)⟩
theorem lw_p57 : lw_okq (⟨"HandbagLady", "firstUntrue", "(I)I"⟩, 13) := ⟨⟨by decide +kernel, by decide +kernel⟩, List.mem_of_getElem? (i := 9) (by decide +kernel), List.mem_of_getElem? (i := 625) (by decide +kernel), List.mem_of_getElem? (i := 626) (by decide +kernel)⟩
theorem lw_p58 : lw_okq (⟨"HandbagLady", "placesByKinds", "(IIII)I"⟩, 13) := ⟨⟨by decide +kernel, by decide +kernel⟩, List.mem_of_getElem? (i := 9) (by decide +kernel), List.mem_of_getElem? (i := 641) (by decide +kernel), List.mem_of_getElem? (i := 642) (by decide +kernel)⟩
theorem lw_p59 : lw_okq (⟨"HandbagLady$Street", "goArmInArm", "(II)V"⟩, 19) := ⟨⟨by decide +kernel, by decide +kernel⟩, List.mem_of_getElem? (i := 17) (by decide +kernel), List.mem_of_getElem? (i := 655) (by decide +kernel), List.mem_of_getElem? (i := 656) (by decide +kernel)⟩
theorem lw_p60 : lw_okq (⟨"HandbagLady$Street", "leaderOf", "(II)I"⟩, 19) := ⟨⟨by decide +kernel, by decide +kernel⟩, List.mem_of_getElem? (i := 17) (by decide +kernel), List.mem_of_getElem? (i := 659) (by decide +kernel), List.mem_of_getElem? (i := 660) (by decide +kernel)⟩
theorem lw_p61 : lw_okq (⟨"HandbagLady$Street", "aboveWill", "(I)I"⟩, 19) := ⟨⟨by decide +kernel, by decide +kernel⟩, List.mem_of_getElem? (i := 17) (by decide +kernel), List.mem_of_getElem? (i := 663) (by decide +kernel), List.mem_of_getElem? (i := 664) (by decide +kernel)⟩
theorem lw_p62 : lw_okq (⟨"HandbagLady", "wrongSleep", "(IIIII)I"⟩, 13) := ⟨⟨by decide +kernel, by decide +kernel⟩, List.mem_of_getElem? (i := 9) (by decide +kernel), List.mem_of_getElem? (i := 671) (by decide +kernel), List.mem_of_getElem? (i := 672) (by decide +kernel)⟩
theorem lw_p63 : lw_okq (⟨"HandbagLady", "walkAsleep", "(IIII)J"⟩, 13) := ⟨⟨by decide +kernel, by decide +kernel⟩, List.mem_of_getElem? (i := 9) (by decide +kernel), List.mem_of_getElem? (i := 676) (by decide +kernel), List.mem_of_getElem? (i := 677) (by decide +kernel)⟩
def lw_privs_4 : List (MethodName × Nat) := [(⟨"HandbagLady$Ways", "choiceOf", "(I)I"⟩, 5), (⟨"HandbagLady$Ways", "keepBest", "()V"⟩, 5), (⟨"HandbagLady$Ways", "bestBagOf", "(I)I"⟩, 5), (⟨"HandbagLady", "ledHoursBelow", "(II)I"⟩, 13), (⟨"HandbagLady$Street", "rankOfBearer", "(I)I"⟩, 19), (⟨"HandbagLady$Street", "bagRanked", "(I)I"⟩, 19), (⟨"HandbagLady$Street", "rankOfBag", "(I)I"⟩, 19), (⟨"HandbagLady$Street", "plainPullOf", "(I)I"⟩, 19), (⟨"HandbagLady$Street", "bearerRanked", "(I)I"⟩, 19), (⟨"HandbagLady", "firstUntrue", "(I)I"⟩, 13), (⟨"HandbagLady", "placesByKinds", "(IIII)I"⟩, 13), (⟨"HandbagLady$Street", "goArmInArm", "(II)V"⟩, 19), (⟨"HandbagLady$Street", "leaderOf", "(II)I"⟩, 19), (⟨"HandbagLady$Street", "aboveWill", "(I)I"⟩, 19), (⟨"HandbagLady", "wrongSleep", "(IIIII)I"⟩, 13), (⟨"HandbagLady", "walkAsleep", "(IIII)J"⟩, 13)]
theorem lw_r4 : ∀ q ∈ lw_privs_4, lw_okq q := List.forall_mem_cons.mpr ⟨lw_p48, List.forall_mem_cons.mpr ⟨lw_p49, List.forall_mem_cons.mpr ⟨lw_p50, List.forall_mem_cons.mpr ⟨lw_p51, List.forall_mem_cons.mpr ⟨lw_p52, List.forall_mem_cons.mpr ⟨lw_p53, List.forall_mem_cons.mpr ⟨lw_p54, List.forall_mem_cons.mpr ⟨lw_p55, List.forall_mem_cons.mpr ⟨lw_p56, List.forall_mem_cons.mpr ⟨lw_p57, List.forall_mem_cons.mpr ⟨lw_p58, List.forall_mem_cons.mpr ⟨lw_p59, List.forall_mem_cons.mpr ⟨lw_p60, List.forall_mem_cons.mpr ⟨lw_p61, List.forall_mem_cons.mpr ⟨lw_p62, List.forall_mem_cons.mpr ⟨lw_p63, fun _ h => absurd h List.not_mem_nil⟩⟩⟩⟩⟩⟩⟩⟩⟩⟩⟩⟩⟩⟩⟩⟩
theorem lw_p64 : lw_okq (⟨"HandbagLadyModel", "no", "(I)I"⟩, 38) := ⟨⟨by decide +kernel, by decide +kernel⟩, List.mem_of_getElem? (i := 684) (by decide +kernel), List.mem_of_getElem? (i := 812) (by decide +kernel), List.mem_of_getElem? (i := 813) (by decide +kernel)⟩
theorem lw_p65 : lw_okq (⟨"HandbagLadyModel", "statement", "()Z"⟩, 38) := ⟨⟨by decide +kernel, by decide +kernel⟩, List.mem_of_getElem? (i := 684) (by decide +kernel), List.mem_of_getElem? (i := 820) (by decide +kernel), List.mem_of_getElem? (i := 821) (by decide +kernel)⟩
theorem lw_p66 : lw_okq (⟨"HandbagLadyModel", "next", "()I"⟩, 38) := ⟨⟨by decide +kernel, by decide +kernel⟩, List.mem_of_getElem? (i := 684) (by decide +kernel), List.mem_of_getElem? (i := 824) (by decide +kernel), List.mem_of_getElem? (i := 825) (by decide +kernel)⟩
theorem lw_p67 : lw_okq (⟨"HandbagLadyModel", "readsAll", "(II)Z"⟩, 38) := ⟨⟨by decide +kernel, by decide +kernel⟩, List.mem_of_getElem? (i := 684) (by decide +kernel), List.mem_of_getElem? (i := 828) (by decide +kernel), List.mem_of_getElem? (i := 829) (by decide +kernel)⟩
theorem lw_p68 : lw_okq (⟨"HandbagLadyModel", "readsDigits", "(II)Z"⟩, 38) := ⟨⟨by decide +kernel, by decide +kernel⟩, List.mem_of_getElem? (i := 684) (by decide +kernel), List.mem_of_getElem? (i := 832) (by decide +kernel), List.mem_of_getElem? (i := 833) (by decide +kernel)⟩
theorem lw_p69 : lw_okq (⟨"HandbagLadyModel", "passesAll", "(IZ)V"⟩, 38) := ⟨⟨by decide +kernel, by decide +kernel⟩, List.mem_of_getElem? (i := 684) (by decide +kernel), List.mem_of_getElem? (i := 839) (by decide +kernel), List.mem_of_getElem? (i := 840) (by decide +kernel)⟩
theorem lw_p70 : lw_okq (⟨"HandbagLadyModel", "passes", "([I)V"⟩, 38) := ⟨⟨by decide +kernel, by decide +kernel⟩, List.mem_of_getElem? (i := 684) (by decide +kernel), List.mem_of_getElem? (i := 843) (by decide +kernel), List.mem_of_getElem? (i := 844) (by decide +kernel)⟩
theorem lw_p71 : lw_okq (⟨"HandbagLadyModel", "passOne", "(I)I"⟩, 38) := ⟨⟨by decide +kernel, by decide +kernel⟩, List.mem_of_getElem? (i := 684) (by decide +kernel), List.mem_of_getElem? (i := 847) (by decide +kernel), List.mem_of_getElem? (i := 848) (by decide +kernel)⟩
theorem lw_p72 : lw_okq (⟨"HandbagLadyModel", "comes", "(I)Z"⟩, 38) := ⟨⟨by decide +kernel, by decide +kernel⟩, List.mem_of_getElem? (i := 684) (by decide +kernel), List.mem_of_getElem? (i := 851) (by decide +kernel), List.mem_of_getElem? (i := 852) (by decide +kernel)⟩
theorem lw_p73 : lw_okq (⟨"HandbagLadyModel", "addsBag", "(III)V"⟩, 38) := ⟨⟨by decide +kernel, by decide +kernel⟩, List.mem_of_getElem? (i := 684) (by decide +kernel), List.mem_of_getElem? (i := 855) (by decide +kernel), List.mem_of_getElem? (i := 856) (by decide +kernel)⟩
theorem lw_p74 : lw_okq (⟨"HandbagLadyModel", "addsBearer", "(III)V"⟩, 38) := ⟨⟨by decide +kernel, by decide +kernel⟩, List.mem_of_getElem? (i := 684) (by decide +kernel), List.mem_of_getElem? (i := 859) (by decide +kernel), List.mem_of_getElem? (i := 860) (by decide +kernel)⟩
theorem lw_p75 : lw_okq (⟨"HandbagLadyModel", "isBag", "(I)Z"⟩, 38) := ⟨⟨by decide +kernel, by decide +kernel⟩, List.mem_of_getElem? (i := 684) (by decide +kernel), List.mem_of_getElem? (i := 863) (by decide +kernel), List.mem_of_getElem? (i := 864) (by decide +kernel)⟩
theorem lw_p76 : lw_okq (⟨"HandbagLadyModel", "isBearer", "(I)Z"⟩, 38) := ⟨⟨by decide +kernel, by decide +kernel⟩, List.mem_of_getElem? (i := 684) (by decide +kernel), List.mem_of_getElem? (i := 867) (by decide +kernel), List.mem_of_getElem? (i := 868) (by decide +kernel)⟩
theorem lw_p77 : lw_okq (⟨"HandbagLadyModel", "givesHer", "(II)V"⟩, 38) := ⟨⟨by decide +kernel, by decide +kernel⟩, List.mem_of_getElem? (i := 684) (by decide +kernel), List.mem_of_getElem? (i := 871) (by decide +kernel), List.mem_of_getElem? (i := 872) (by decide +kernel)⟩
theorem lw_p78 : lw_okq (⟨"HandbagLadyModel", "whoHas", "(I)I"⟩, 38) := ⟨⟨by decide +kernel, by decide +kernel⟩, List.mem_of_getElem? (i := 684) (by decide +kernel), List.mem_of_getElem? (i := 875) (by decide +kernel), List.mem_of_getElem? (i := 876) (by decide +kernel)⟩
theorem lw_p79 : lw_okq (⟨"HandbagLadyModel", "befriends", "(II)V"⟩, 38) := ⟨⟨by decide +kernel, by decide +kernel⟩, List.mem_of_getElem? (i := 684) (by decide +kernel), List.mem_of_getElem? (i := 879) (by decide +kernel), List.mem_of_getElem? (i := 880) (by decide +kernel)⟩
def lw_privs_5 : List (MethodName × Nat) := [(⟨"HandbagLadyModel", "no", "(I)I"⟩, 38), (⟨"HandbagLadyModel", "statement", "()Z"⟩, 38), (⟨"HandbagLadyModel", "next", "()I"⟩, 38), (⟨"HandbagLadyModel", "readsAll", "(II)Z"⟩, 38), (⟨"HandbagLadyModel", "readsDigits", "(II)Z"⟩, 38), (⟨"HandbagLadyModel", "passesAll", "(IZ)V"⟩, 38), (⟨"HandbagLadyModel", "passes", "([I)V"⟩, 38), (⟨"HandbagLadyModel", "passOne", "(I)I"⟩, 38), (⟨"HandbagLadyModel", "comes", "(I)Z"⟩, 38), (⟨"HandbagLadyModel", "addsBag", "(III)V"⟩, 38), (⟨"HandbagLadyModel", "addsBearer", "(III)V"⟩, 38), (⟨"HandbagLadyModel", "isBag", "(I)Z"⟩, 38), (⟨"HandbagLadyModel", "isBearer", "(I)Z"⟩, 38), (⟨"HandbagLadyModel", "givesHer", "(II)V"⟩, 38), (⟨"HandbagLadyModel", "whoHas", "(I)I"⟩, 38), (⟨"HandbagLadyModel", "befriends", "(II)V"⟩, 38)]
theorem lw_r5 : ∀ q ∈ lw_privs_5, lw_okq q := List.forall_mem_cons.mpr ⟨lw_p64, List.forall_mem_cons.mpr ⟨lw_p65, List.forall_mem_cons.mpr ⟨lw_p66, List.forall_mem_cons.mpr ⟨lw_p67, List.forall_mem_cons.mpr ⟨lw_p68, List.forall_mem_cons.mpr ⟨lw_p69, List.forall_mem_cons.mpr ⟨lw_p70, List.forall_mem_cons.mpr ⟨lw_p71, List.forall_mem_cons.mpr ⟨lw_p72, List.forall_mem_cons.mpr ⟨lw_p73, List.forall_mem_cons.mpr ⟨lw_p74, List.forall_mem_cons.mpr ⟨lw_p75, List.forall_mem_cons.mpr ⟨lw_p76, List.forall_mem_cons.mpr ⟨lw_p77, List.forall_mem_cons.mpr ⟨lw_p78, List.forall_mem_cons.mpr ⟨lw_p79, fun _ h => absurd h List.not_mem_nil⟩⟩⟩⟩⟩⟩⟩⟩⟩⟩⟩⟩⟩⟩⟩⟩
theorem lw_p80 : lw_okq (⟨"HandbagLadyModel", "unfriends", "(I)V"⟩, 38) := ⟨⟨by decide +kernel, by decide +kernel⟩, List.mem_of_getElem? (i := 684) (by decide +kernel), List.mem_of_getElem? (i := 883) (by decide +kernel), List.mem_of_getElem? (i := 884) (by decide +kernel)⟩
theorem lw_p81 : lw_okq (⟨"HandbagLadyModel", "comesHours", "(I)Z"⟩, 38) := ⟨⟨by decide +kernel, by decide +kernel⟩, List.mem_of_getElem? (i := 684) (by decide +kernel), List.mem_of_getElem? (i := 887) (by decide +kernel), List.mem_of_getElem? (i := 888) (by decide +kernel)⟩
theorem lw_p82 : lw_okq (⟨"HandbagLadyModel", "goesHour", "(Z)V"⟩, 38) := ⟨⟨by decide +kernel, by decide +kernel⟩, List.mem_of_getElem? (i := 684) (by decide +kernel), List.mem_of_getElem? (i := 891) (by decide +kernel), List.mem_of_getElem? (i := 892) (by decide +kernel)⟩
theorem lw_p83 : lw_okq (⟨"HandbagLadyModel", "goesOne", "(IZ)V"⟩, 38) := ⟨⟨by decide +kernel, by decide +kernel⟩, List.mem_of_getElem? (i := 684) (by decide +kernel), List.mem_of_getElem? (i := 895) (by decide +kernel), List.mem_of_getElem? (i := 896) (by decide +kernel)⟩
theorem lw_p84 : lw_okq (⟨"HandbagLadyModel", "isLed", "(I)Z"⟩, 38) := ⟨⟨by decide +kernel, by decide +kernel⟩, List.mem_of_getElem? (i := 684) (by decide +kernel), List.mem_of_getElem? (i := 899) (by decide +kernel), List.mem_of_getElem? (i := 900) (by decide +kernel)⟩
theorem lw_p85 : lw_okq (⟨"HandbagLadyModel", "pullOf", "(I)I"⟩, 38) := ⟨⟨by decide +kernel, by decide +kernel⟩, List.mem_of_getElem? (i := 684) (by decide +kernel), List.mem_of_getElem? (i := 903) (by decide +kernel), List.mem_of_getElem? (i := 904) (by decide +kernel)⟩
theorem lw_p86 : lw_okq (⟨"HandbagLadyModel", "isFriendOut", "(I)Z"⟩, 38) := ⟨⟨by decide +kernel, by decide +kernel⟩, List.mem_of_getElem? (i := 684) (by decide +kernel), List.mem_of_getElem? (i := 907) (by decide +kernel), List.mem_of_getElem? (i := 908) (by decide +kernel)⟩
theorem lw_p87 : lw_okq (⟨"HandbagLadyModel", "goesLed", "(I)V"⟩, 38) := ⟨⟨by decide +kernel, by decide +kernel⟩, List.mem_of_getElem? (i := 684) (by decide +kernel), List.mem_of_getElem? (i := 911) (by decide +kernel), List.mem_of_getElem? (i := 912) (by decide +kernel)⟩
theorem lw_p88 : lw_okq (⟨"HandbagLadyModel", "goalOf", "(II)I"⟩, 38) := ⟨⟨by decide +kernel, by decide +kernel⟩, List.mem_of_getElem? (i := 684) (by decide +kernel), List.mem_of_getElem? (i := 915) (by decide +kernel), List.mem_of_getElem? (i := 916) (by decide +kernel)⟩
theorem lw_p89 : lw_okq (⟨"HandbagLadyModel", "bagNow", "(I)I"⟩, 38) := ⟨⟨by decide +kernel, by decide +kernel⟩, List.mem_of_getElem? (i := 684) (by decide +kernel), List.mem_of_getElem? (i := 942) (by decide +kernel), List.mem_of_getElem? (i := 943) (by decide +kernel)⟩
theorem lw_p90 : lw_okq (⟨"HandbagLadyModel", "keepsBack", "()V"⟩, 38) := ⟨⟨by decide +kernel, by decide +kernel⟩, List.mem_of_getElem? (i := 684) (by decide +kernel), List.mem_of_getElem? (i := 958) (by decide +kernel), List.mem_of_getElem? (i := 959) (by decide +kernel)⟩
theorem lw_p91 : lw_okq (⟨"HandbagLadyModel", "counts", "()V"⟩, 38) := ⟨⟨by decide +kernel, by decide +kernel⟩, List.mem_of_getElem? (i := 684) (by decide +kernel), List.mem_of_getElem? (i := 985) (by decide +kernel), List.mem_of_getElem? (i := 986) (by decide +kernel)⟩
theorem lw_p92 : lw_okq (⟨"HandbagLadyModel", "goes", "(I)V"⟩, 38) := ⟨⟨by decide +kernel, by decide +kernel⟩, List.mem_of_getElem? (i := 684) (by decide +kernel), List.mem_of_getElem? (i := 989) (by decide +kernel), List.mem_of_getElem? (i := 990) (by decide +kernel)⟩
theorem lw_p93 : lw_okq (⟨"HandbagLadyModel", "thinks", "()V"⟩, 38) := ⟨⟨by decide +kernel, by decide +kernel⟩, List.mem_of_getElem? (i := 684) (by decide +kernel), List.mem_of_getElem? (i := 1000) (by decide +kernel), List.mem_of_getElem? (i := 1001) (by decide +kernel)⟩
theorem lw_p94 : lw_okq (⟨"HandbagLadyModel", "forgets", "()V"⟩, 38) := ⟨⟨by decide +kernel, by decide +kernel⟩, List.mem_of_getElem? (i := 684) (by decide +kernel), List.mem_of_getElem? (i := 1004) (by decide +kernel), List.mem_of_getElem? (i := 1005) (by decide +kernel)⟩
theorem lw_p95 : lw_okq (⟨"HandbagLadyModel", "areTwo", "(II)Z"⟩, 38) := ⟨⟨by decide +kernel, by decide +kernel⟩, List.mem_of_getElem? (i := 684) (by decide +kernel), List.mem_of_getElem? (i := 1012) (by decide +kernel), List.mem_of_getElem? (i := 1013) (by decide +kernel)⟩
def lw_privs_6 : List (MethodName × Nat) := [(⟨"HandbagLadyModel", "unfriends", "(I)V"⟩, 38), (⟨"HandbagLadyModel", "comesHours", "(I)Z"⟩, 38), (⟨"HandbagLadyModel", "goesHour", "(Z)V"⟩, 38), (⟨"HandbagLadyModel", "goesOne", "(IZ)V"⟩, 38), (⟨"HandbagLadyModel", "isLed", "(I)Z"⟩, 38), (⟨"HandbagLadyModel", "pullOf", "(I)I"⟩, 38), (⟨"HandbagLadyModel", "isFriendOut", "(I)Z"⟩, 38), (⟨"HandbagLadyModel", "goesLed", "(I)V"⟩, 38), (⟨"HandbagLadyModel", "goalOf", "(II)I"⟩, 38), (⟨"HandbagLadyModel", "bagNow", "(I)I"⟩, 38), (⟨"HandbagLadyModel", "keepsBack", "()V"⟩, 38), (⟨"HandbagLadyModel", "counts", "()V"⟩, 38), (⟨"HandbagLadyModel", "goes", "(I)V"⟩, 38), (⟨"HandbagLadyModel", "thinks", "()V"⟩, 38), (⟨"HandbagLadyModel", "forgets", "()V"⟩, 38), (⟨"HandbagLadyModel", "areTwo", "(II)Z"⟩, 38)]
theorem lw_r6 : ∀ q ∈ lw_privs_6, lw_okq q := List.forall_mem_cons.mpr ⟨lw_p80, List.forall_mem_cons.mpr ⟨lw_p81, List.forall_mem_cons.mpr ⟨lw_p82, List.forall_mem_cons.mpr ⟨lw_p83, List.forall_mem_cons.mpr ⟨lw_p84, List.forall_mem_cons.mpr ⟨lw_p85, List.forall_mem_cons.mpr ⟨lw_p86, List.forall_mem_cons.mpr ⟨lw_p87, List.forall_mem_cons.mpr ⟨lw_p88, List.forall_mem_cons.mpr ⟨lw_p89, List.forall_mem_cons.mpr ⟨lw_p90, List.forall_mem_cons.mpr ⟨lw_p91, List.forall_mem_cons.mpr ⟨lw_p92, List.forall_mem_cons.mpr ⟨lw_p93, List.forall_mem_cons.mpr ⟨lw_p94, List.forall_mem_cons.mpr ⟨lw_p95, fun _ h => absurd h List.not_mem_nil⟩⟩⟩⟩⟩⟩⟩⟩⟩⟩⟩⟩⟩⟩⟩⟩
theorem lw_p96 : lw_okq (⟨"HandbagLadyModel", "meetsIn", "(II)I"⟩, 38) := ⟨⟨by decide +kernel, by decide +kernel⟩, List.mem_of_getElem? (i := 684) (by decide +kernel), List.mem_of_getElem? (i := 1016) (by decide +kernel), List.mem_of_getElem? (i := 1017) (by decide +kernel)⟩
theorem lw_p97 : lw_okq (⟨"HandbagLadyModel", "manyAt", "(I)I"⟩, 38) := ⟨⟨by decide +kernel, by decide +kernel⟩, List.mem_of_getElem? (i := 684) (by decide +kernel), List.mem_of_getElem? (i := 1024) (by decide +kernel), List.mem_of_getElem? (i := 1025) (by decide +kernel)⟩
theorem lw_p98 : lw_okq (⟨"HandbagLadyModel", "outOf", "(I)I"⟩, 38) := ⟨⟨by decide +kernel, by decide +kernel⟩, List.mem_of_getElem? (i := 684) (by decide +kernel), List.mem_of_getElem? (i := 1032) (by decide +kernel), List.mem_of_getElem? (i := 1033) (by decide +kernel)⟩
theorem lw_p99 : lw_okq (⟨"HandbagLadyModel", "snapsIn", "(I)I"⟩, 38) := ⟨⟨by decide +kernel, by decide +kernel⟩, List.mem_of_getElem? (i := 684) (by decide +kernel), List.mem_of_getElem? (i := 1040) (by decide +kernel), List.mem_of_getElem? (i := 1041) (by decide +kernel)⟩
theorem lw_p100 : lw_okq (⟨"HandbagLadyModel", "bestColonel", "(I)I"⟩, 38) := ⟨⟨by decide +kernel, by decide +kernel⟩, List.mem_of_getElem? (i := 684) (by decide +kernel), List.mem_of_getElem? (i := 1044) (by decide +kernel), List.mem_of_getElem? (i := 1045) (by decide +kernel)⟩
theorem lw_p101 : lw_okq (⟨"HandbagLadyModel", "leastLed", "(I)I"⟩, 38) := ⟨⟨by decide +kernel, by decide +kernel⟩, List.mem_of_getElem? (i := 684) (by decide +kernel), List.mem_of_getElem? (i := 1048) (by decide +kernel), List.mem_of_getElem? (i := 1049) (by decide +kernel)⟩
theorem lw_p102 : lw_okq (⟨"HandbagLadyModel", "comesWith", "(III)I"⟩, 38) := ⟨⟨by decide +kernel, by decide +kernel⟩, List.mem_of_getElem? (i := 684) (by decide +kernel), List.mem_of_getElem? (i := 1056) (by decide +kernel), List.mem_of_getElem? (i := 1057) (by decide +kernel)⟩
theorem lw_p103 : lw_okq (⟨"HandbagLadyModel", "comesTo", "(III)I"⟩, 38) := ⟨⟨by decide +kernel, by decide +kernel⟩, List.mem_of_getElem? (i := 684) (by decide +kernel), List.mem_of_getElem? (i := 1060) (by decide +kernel), List.mem_of_getElem? (i := 1061) (by decide +kernel)⟩
theorem lw_p104 : lw_okq (⟨"HandbagLadyModel", "errandBy", "(IIII)I"⟩, 38) := ⟨⟨by decide +kernel, by decide +kernel⟩, List.mem_of_getElem? (i := 684) (by decide +kernel), List.mem_of_getElem? (i := 1072) (by decide +kernel), List.mem_of_getElem? (i := 1073) (by decide +kernel)⟩
theorem lw_p105 : lw_okq (⟨"HandbagLadyModel", "bestWay", "(III)I"⟩, 38) := ⟨⟨by decide +kernel, by decide +kernel⟩, List.mem_of_getElem? (i := 684) (by decide +kernel), List.mem_of_getElem? (i := 1084) (by decide +kernel), List.mem_of_getElem? (i := 1085) (by decide +kernel)⟩
theorem lw_p106 : lw_okq (⟨"HandbagLadyModel", "manyWays", "()I"⟩, 38) := ⟨⟨by decide +kernel, by decide +kernel⟩, List.mem_of_getElem? (i := 684) (by decide +kernel), List.mem_of_getElem? (i := 1088) (by decide +kernel), List.mem_of_getElem? (i := 1089) (by decide +kernel)⟩
theorem lw_p107 : lw_okq (⟨"HandbagLadyModel", "isWay", "(I)Z"⟩, 38) := ⟨⟨by decide +kernel, by decide +kernel⟩, List.mem_of_getElem? (i := 684) (by decide +kernel), List.mem_of_getElem? (i := 1092) (by decide +kernel), List.mem_of_getElem? (i := 1093) (by decide +kernel)⟩
theorem lw_p108 : lw_okq (⟨"HandbagLadyModel", "digitOf", "(II)I"⟩, 38) := ⟨⟨by decide +kernel, by decide +kernel⟩, List.mem_of_getElem? (i := 684) (by decide +kernel), List.mem_of_getElem? (i := 1096) (by decide +kernel), List.mem_of_getElem? (i := 1097) (by decide +kernel)⟩
theorem lw_p109 : lw_okq (⟨"HandbagLadyModel", "givesAll", "(I)V"⟩, 38) := ⟨⟨by decide +kernel, by decide +kernel⟩, List.mem_of_getElem? (i := 684) (by decide +kernel), List.mem_of_getElem? (i := 1100) (by decide +kernel), List.mem_of_getElem? (i := 1101) (by decide +kernel)⟩
theorem lw_p110 : lw_okq (⟨"HandbagLadyModel", "allLed", "(I)I"⟩, 38) := ⟨⟨by decide +kernel, by decide +kernel⟩, List.mem_of_getElem? (i := 684) (by decide +kernel), List.mem_of_getElem? (i := 1104) (by decide +kernel), List.mem_of_getElem? (i := 1105) (by decide +kernel)⟩
theorem lw_p111 : lw_okq (⟨"HandbagLadyModel", "bagBy", "(II)I"⟩, 38) := ⟨⟨by decide +kernel, by decide +kernel⟩, List.mem_of_getElem? (i := 684) (by decide +kernel), List.mem_of_getElem? (i := 1108) (by decide +kernel), List.mem_of_getElem? (i := 1109) (by decide +kernel)⟩
def lw_privs_7 : List (MethodName × Nat) := [(⟨"HandbagLadyModel", "meetsIn", "(II)I"⟩, 38), (⟨"HandbagLadyModel", "manyAt", "(I)I"⟩, 38), (⟨"HandbagLadyModel", "outOf", "(I)I"⟩, 38), (⟨"HandbagLadyModel", "snapsIn", "(I)I"⟩, 38), (⟨"HandbagLadyModel", "bestColonel", "(I)I"⟩, 38), (⟨"HandbagLadyModel", "leastLed", "(I)I"⟩, 38), (⟨"HandbagLadyModel", "comesWith", "(III)I"⟩, 38), (⟨"HandbagLadyModel", "comesTo", "(III)I"⟩, 38), (⟨"HandbagLadyModel", "errandBy", "(IIII)I"⟩, 38), (⟨"HandbagLadyModel", "bestWay", "(III)I"⟩, 38), (⟨"HandbagLadyModel", "manyWays", "()I"⟩, 38), (⟨"HandbagLadyModel", "isWay", "(I)Z"⟩, 38), (⟨"HandbagLadyModel", "digitOf", "(II)I"⟩, 38), (⟨"HandbagLadyModel", "givesAll", "(I)V"⟩, 38), (⟨"HandbagLadyModel", "allLed", "(I)I"⟩, 38), (⟨"HandbagLadyModel", "bagBy", "(II)I"⟩, 38)]
theorem lw_r7 : ∀ q ∈ lw_privs_7, lw_okq q := List.forall_mem_cons.mpr ⟨lw_p96, List.forall_mem_cons.mpr ⟨lw_p97, List.forall_mem_cons.mpr ⟨lw_p98, List.forall_mem_cons.mpr ⟨lw_p99, List.forall_mem_cons.mpr ⟨lw_p100, List.forall_mem_cons.mpr ⟨lw_p101, List.forall_mem_cons.mpr ⟨lw_p102, List.forall_mem_cons.mpr ⟨lw_p103, List.forall_mem_cons.mpr ⟨lw_p104, List.forall_mem_cons.mpr ⟨lw_p105, List.forall_mem_cons.mpr ⟨lw_p106, List.forall_mem_cons.mpr ⟨lw_p107, List.forall_mem_cons.mpr ⟨lw_p108, List.forall_mem_cons.mpr ⟨lw_p109, List.forall_mem_cons.mpr ⟨lw_p110, List.forall_mem_cons.mpr ⟨lw_p111, fun _ h => absurd h List.not_mem_nil⟩⟩⟩⟩⟩⟩⟩⟩⟩⟩⟩⟩⟩⟩⟩⟩
theorem lw_p112 : lw_okq (⟨"HandbagLadyModel", "asks", "(I)Z"⟩, 38) := ⟨⟨by decide +kernel, by decide +kernel⟩, List.mem_of_getElem? (i := 684) (by decide +kernel), List.mem_of_getElem? (i := 1120) (by decide +kernel), List.mem_of_getElem? (i := 1121) (by decide +kernel)⟩
theorem lw_p113 : lw_okq (⟨"HandbagLadyModel", "isKept", "(I)Z"⟩, 38) := ⟨⟨by decide +kernel, by decide +kernel⟩, List.mem_of_getElem? (i := 684) (by decide +kernel), List.mem_of_getElem? (i := 1124) (by decide +kernel), List.mem_of_getElem? (i := 1125) (by decide +kernel)⟩
theorem lw_p114 : lw_okq (⟨"HandbagLadyModel", "nextAsked", "(I)I"⟩, 38) := ⟨⟨by decide +kernel, by decide +kernel⟩, List.mem_of_getElem? (i := 684) (by decide +kernel), List.mem_of_getElem? (i := 1128) (by decide +kernel), List.mem_of_getElem? (i := 1129) (by decide +kernel)⟩
theorem lw_p115 : lw_okq (⟨"HandbagLadyModel", "plainPull", "(I)I"⟩, 38) := ⟨⟨by decide +kernel, by decide +kernel⟩, List.mem_of_getElem? (i := 684) (by decide +kernel), List.mem_of_getElem? (i := 1132) (by decide +kernel), List.mem_of_getElem? (i := 1133) (by decide +kernel)⟩
theorem lw_p116 : lw_okq (⟨"HandbagLadyModel", "isRather", "(II)Z"⟩, 38) := ⟨⟨by decide +kernel, by decide +kernel⟩, List.mem_of_getElem? (i := 684) (by decide +kernel), List.mem_of_getElem? (i := 1136) (by decide +kernel), List.mem_of_getElem? (i := 1137) (by decide +kernel)⟩
theorem lw_p117 : lw_okq (⟨"HandbagLadyModel", "bitsFor", "(I[III)I"⟩, 38) := ⟨⟨by decide +kernel, by decide +kernel⟩, List.mem_of_getElem? (i := 684) (by decide +kernel), List.mem_of_getElem? (i := 1144) (by decide +kernel), List.mem_of_getElem? (i := 1145) (by decide +kernel)⟩
theorem lw_p118 : lw_okq (⟨"HandbagLadyModel", "walksSo", "(I)Z"⟩, 38) := ⟨⟨by decide +kernel, by decide +kernel⟩, List.mem_of_getElem? (i := 684) (by decide +kernel), List.mem_of_getElem? (i := 1148) (by decide +kernel), List.mem_of_getElem? (i := 1149) (by decide +kernel)⟩
theorem lw_p119 : lw_okq (⟨"HandbagLadyModel", "unlikeBy", "(II)I"⟩, 38) := ⟨⟨by decide +kernel, by decide +kernel⟩, List.mem_of_getElem? (i := 684) (by decide +kernel), List.mem_of_getElem? (i := 1156) (by decide +kernel), List.mem_of_getElem? (i := 1157) (by decide +kernel)⟩
theorem lw_p120 : lw_okq (⟨"HandbagLadyModel", "atIn", "(II)I"⟩, 38) := ⟨⟨by decide +kernel, by decide +kernel⟩, List.mem_of_getElem? (i := 684) (by decide +kernel), List.mem_of_getElem? (i := 1160) (by decide +kernel), List.mem_of_getElem? (i := 1161) (by decide +kernel)⟩
theorem lw_p121 : lw_okq (⟨"HandbagLadyModel", "goesArm", "(II)V"⟩, 38) := ⟨⟨by decide +kernel, by decide +kernel⟩, List.mem_of_getElem? (i := 684) (by decide +kernel), List.mem_of_getElem? (i := 1168) (by decide +kernel), List.mem_of_getElem? (i := 1169) (by decide +kernel)⟩
theorem lw_p122 : lw_okq (⟨"HandbagLadyModel", "above", "(I)I"⟩, 38) := ⟨⟨by decide +kernel, by decide +kernel⟩, List.mem_of_getElem? (i := 684) (by decide +kernel), List.mem_of_getElem? (i := 1172) (by decide +kernel), List.mem_of_getElem? (i := 1173) (by decide +kernel)⟩
theorem lw_p123 : lw_okq (⟨"HandbagLadyModel", "lowest", "(I)J"⟩, 38) := ⟨⟨by decide +kernel, by decide +kernel⟩, List.mem_of_getElem? (i := 684) (by decide +kernel), List.mem_of_getElem? (i := 1180) (by decide +kernel), List.mem_of_getElem? (i := 1181) (by decide +kernel)⟩
theorem lw_p124 : lw_okq (⟨"HandbagLadyModel", "ledSwapped", "(III)I"⟩, 38) := ⟨⟨by decide +kernel, by decide +kernel⟩, List.mem_of_getElem? (i := 684) (by decide +kernel), List.mem_of_getElem? (i := 1192) (by decide +kernel), List.mem_of_getElem? (i := 1193) (by decide +kernel)⟩
theorem lw_p125 : lw_okq (⟨"HandbagLadyModel", "apart", "(II)I"⟩, 38) := ⟨⟨by decide +kernel, by decide +kernel⟩, List.mem_of_getElem? (i := 684) (by decide +kernel), List.mem_of_getElem? (i := 1204) (by decide +kernel), List.mem_of_getElem? (i := 1205) (by decide +kernel)⟩
theorem lw_p126 : lw_okq (⟨"HandbagLadyModel", "allBreath", "()I"⟩, 38) := ⟨⟨by decide +kernel, by decide +kernel⟩, List.mem_of_getElem? (i := 684) (by decide +kernel), List.mem_of_getElem? (i := 1212) (by decide +kernel), List.mem_of_getElem? (i := 1213) (by decide +kernel)⟩
theorem lw_p127 : lw_okq (⟨"HandbagLadyModel", "areAtOne", "()Z"⟩, 38) := ⟨⟨by decide +kernel, by decide +kernel⟩, List.mem_of_getElem? (i := 684) (by decide +kernel), List.mem_of_getElem? (i := 1248) (by decide +kernel), List.mem_of_getElem? (i := 1249) (by decide +kernel)⟩
def lw_privs_8 : List (MethodName × Nat) := [(⟨"HandbagLadyModel", "asks", "(I)Z"⟩, 38), (⟨"HandbagLadyModel", "isKept", "(I)Z"⟩, 38), (⟨"HandbagLadyModel", "nextAsked", "(I)I"⟩, 38), (⟨"HandbagLadyModel", "plainPull", "(I)I"⟩, 38), (⟨"HandbagLadyModel", "isRather", "(II)Z"⟩, 38), (⟨"HandbagLadyModel", "bitsFor", "(I[III)I"⟩, 38), (⟨"HandbagLadyModel", "walksSo", "(I)Z"⟩, 38), (⟨"HandbagLadyModel", "unlikeBy", "(II)I"⟩, 38), (⟨"HandbagLadyModel", "atIn", "(II)I"⟩, 38), (⟨"HandbagLadyModel", "goesArm", "(II)V"⟩, 38), (⟨"HandbagLadyModel", "above", "(I)I"⟩, 38), (⟨"HandbagLadyModel", "lowest", "(I)J"⟩, 38), (⟨"HandbagLadyModel", "ledSwapped", "(III)I"⟩, 38), (⟨"HandbagLadyModel", "apart", "(II)I"⟩, 38), (⟨"HandbagLadyModel", "allBreath", "()I"⟩, 38), (⟨"HandbagLadyModel", "areAtOne", "()Z"⟩, 38)]
theorem lw_r8 : ∀ q ∈ lw_privs_8, lw_okq q := List.forall_mem_cons.mpr ⟨lw_p112, List.forall_mem_cons.mpr ⟨lw_p113, List.forall_mem_cons.mpr ⟨lw_p114, List.forall_mem_cons.mpr ⟨lw_p115, List.forall_mem_cons.mpr ⟨lw_p116, List.forall_mem_cons.mpr ⟨lw_p117, List.forall_mem_cons.mpr ⟨lw_p118, List.forall_mem_cons.mpr ⟨lw_p119, List.forall_mem_cons.mpr ⟨lw_p120, List.forall_mem_cons.mpr ⟨lw_p121, List.forall_mem_cons.mpr ⟨lw_p122, List.forall_mem_cons.mpr ⟨lw_p123, List.forall_mem_cons.mpr ⟨lw_p124, List.forall_mem_cons.mpr ⟨lw_p125, List.forall_mem_cons.mpr ⟨lw_p126, List.forall_mem_cons.mpr ⟨lw_p127, fun _ h => absurd h List.not_mem_nil⟩⟩⟩⟩⟩⟩⟩⟩⟩⟩⟩⟩⟩⟩⟩⟩
def lw_privs : List (MethodName × Nat) := lw_privs_1 ++ (lw_privs_2 ++ (lw_privs_3 ++ (lw_privs_4 ++ (lw_privs_5 ++ (lw_privs_6 ++ (lw_privs_7 ++ (lw_privs_8)))))))
def lw_tbl : List Cond := k2_sels lw_privs ++ tables_1
theorem lw_privs_ok : ∀ q ∈ lw_privs, lw_okq q := by
  show ∀ q ∈ lw_privs_1 ++ (lw_privs_2 ++ (lw_privs_3 ++ (lw_privs_4 ++ (lw_privs_5 ++ (lw_privs_6 ++ (lw_privs_7 ++ (lw_privs_8))))))), lw_okq q
  exact List.forall_mem_append.mpr ⟨lw_r1, List.forall_mem_append.mpr ⟨lw_r2, List.forall_mem_append.mpr ⟨lw_r3, List.forall_mem_append.mpr ⟨lw_r4, List.forall_mem_append.mpr ⟨lw_r5, List.forall_mem_append.mpr ⟨lw_r6, List.forall_mem_append.mpr ⟨lw_r7, lw_r8⟩⟩⟩⟩⟩⟩⟩
-- ===== end of PART A; then your names; then what follows =====
end
section
/-! ===== BEGIN printed: names, fields, word lists, decode rows ===== -/
def RX0 : String := "HandbagLady$Street"
def TX0 : u_T := fun k => match k with
  | 0 => ("HandbagLady$Street", "bags", "I", false)
  | 1 => ("HandbagLady$Street", "kind", "[I", true)
  | 2 => ("HandbagLady$Street", "figure", "[I", true)
  | 3 => ("HandbagLady$Street", "habit", "[I", true)
  | 4 => ("HandbagLady$Street", "friend", "[I", true)
  | 5 => ("HandbagLady$Street", "held", "[I", true)
  | 6 => ("HandbagLady$Street", "keeper", "[I", true)
  | 7 => ("HandbagLady$Street", "bearers", "I", false)
  | 8 => ("HandbagLady$Street", "will", "[I", true)
  | 9 => ("HandbagLady$Street", "want", "[I", true)
  | 10 => ("HandbagLady$Street", "at", "[I", true)
  | 11 => ("HandbagLady$Street", "carried", "[I", true)
  | 12 => ("HandbagLady$Street", "breath", "[I", true)
  | 13 => ("HandbagLady$Street", "colonel", "I", false)
  | 14 => ("HandbagLady$Street", "hour", "I", false)
  | 15 => ("HandbagLady$Street", "ledHours", "[I", true)
  | 16 => ("HandbagLady$Street", "restHours", "[I", true)
  | 17 => ("HandbagLady$Street", "snapped", "I", false)
  | _ => ("HandbagLady$Street", "asleep", "I", false)
def tyX0 : Nat → FieldType := fun k => match k with
  | 0 => .int
  | 1 => .array .int
  | 2 => .array .int
  | 3 => .array .int
  | 4 => .array .int
  | 5 => .array .int
  | 6 => .array .int
  | 7 => .int
  | 8 => .array .int
  | 9 => .array .int
  | 10 => .array .int
  | 11 => .array .int
  | 12 => .array .int
  | 13 => .int
  | 14 => .int
  | 15 => .array .int
  | 16 => .array .int
  | 17 => .int
  | _ => .int
abbrev wsX00 : List Cond := u_ws RX0 TX0 19
theorem nmX0 : ∀ a, a < 19 → ∀ b, b < 19 → a ≠ b → (TX0 a).2.1 ≠ (TX0 b).2.1 := by decide +kernel
theorem tyX0_ok : ∀ k, k < 19 → parseFieldDescriptor (TX0 k).2.2.1 = some (tyX0 k) := by decide +kernel
abbrev cX0_init : ByteArray := prog_2_method_1_code
def yX0_init : MethodName := ⟨RX0, "<init>", "()V"⟩
abbrev cX0_copyFrom : ByteArray := prog_2_method_2_code
def yX0_copyFrom : MethodName := ⟨RX0, "copyFrom", "(LHandbagLady$Street;)V"⟩
abbrev cX0_startTallies : ByteArray := prog_2_method_3_code
def yX0_startTallies : MethodName := ⟨RX0, "startTallies", "()V"⟩
abbrev cX0_hasBag : ByteArray := prog_2_method_4_code
def yX0_hasBag : MethodName := ⟨RX0, "hasBag", "(I)Z"⟩
abbrev cX0_hasBearer : ByteArray := prog_2_method_5_code
def yX0_hasBearer : MethodName := ⟨RX0, "hasBearer", "(I)Z"⟩
abbrev cX0_addBag : ByteArray := prog_2_method_6_code
def yX0_addBag : MethodName := ⟨RX0, "addBag", "(III)I"⟩
abbrev cX0_addBearer : ByteArray := prog_2_method_7_code
def yX0_addBearer : MethodName := ⟨RX0, "addBearer", "(III)I"⟩
abbrev cX0_hand : ByteArray := prog_2_method_8_code
def yX0_hand : MethodName := ⟨RX0, "hand", "(II)Z"⟩
abbrev cX0_befriend : ByteArray := prog_2_method_9_code
def yX0_befriend : MethodName := ⟨RX0, "befriend", "(II)Z"⟩
abbrev cX0_unfriend : ByteArray := prog_2_method_10_code
def yX0_unfriend : MethodName := ⟨RX0, "unfriend", "(I)V"⟩
abbrev cX0_changeBags : ByteArray := prog_2_method_11_code
def yX0_changeBags : MethodName := ⟨RX0, "changeBags", "(II)V"⟩
abbrev cX0_startKeeping : ByteArray := prog_2_method_12_code
def yX0_startKeeping : MethodName := ⟨RX0, "startKeeping", "(I)V"⟩
abbrev cX0_takeAllBags : ByteArray := prog_2_method_13_code
def yX0_takeAllBags : MethodName := ⟨RX0, "takeAllBags", "()V"⟩
abbrev cX0_pullOf : ByteArray := prog_2_method_14_code
def yX0_pullOf : MethodName := ⟨RX0, "pullOf", "(I)I"⟩
abbrev cX0_plainPullOf : ByteArray := prog_2_method_15_code
def yX0_plainPullOf : MethodName := ⟨RX0, "plainPullOf", "(I)I"⟩
abbrev cX0_pullBy : ByteArray := prog_2_method_16_code
def yX0_pullBy : MethodName := ⟨RX0, "pullBy", "(IIZ)I"⟩
abbrev cX0_keeperOfFriend : ByteArray := prog_2_method_17_code
def yX0_keeperOfFriend : MethodName := ⟨RX0, "keeperOfFriend", "(I)I"⟩
abbrev cX0_goalOf : ByteArray := prog_2_method_18_code
def yX0_goalOf : MethodName := ⟨RX0, "goalOf", "(II)I"⟩
abbrev cX0_paceOf : ByteArray := prog_2_method_19_code
def yX0_paceOf : MethodName := ⟨RX0, "paceOf", "(I)I"⟩
abbrev cX0_isLed : ByteArray := prog_2_method_20_code
def yX0_isLed : MethodName := ⟨RX0, "isLed", "(I)Z"⟩
abbrev cX0_goHours : ByteArray := prog_2_method_21_code
def yX0_goHours : MethodName := ⟨RX0, "goHours", "(I)V"⟩
abbrev cX0_growHeld : ByteArray := prog_2_method_22_code
def yX0_growHeld : MethodName := ⟨RX0, "growHeld", "()V"⟩
abbrev cX0_countSnaps : ByteArray := prog_2_method_23_code
def yX0_countSnaps : MethodName := ⟨RX0, "countSnaps", "()V"⟩
abbrev cX0_go : ByteArray := prog_2_method_24_code
def yX0_go : MethodName := ⟨RX0, "go", "(I)V"⟩
abbrev cX0_toward : ByteArray := prog_2_method_25_code
def yX0_toward : MethodName := ⟨RX0, "toward", "(III)I"⟩
abbrev cX0_goArmInArm : ByteArray := prog_2_method_26_code
def yX0_goArmInArm : MethodName := ⟨RX0, "goArmInArm", "(II)V"⟩
abbrev cX0_leaderOf : ByteArray := prog_2_method_27_code
def yX0_leaderOf : MethodName := ⟨RX0, "leaderOf", "(II)I"⟩
abbrev cX0_aboveWill : ByteArray := prog_2_method_28_code
def yX0_aboveWill : MethodName := ⟨RX0, "aboveWill", "(I)I"⟩
abbrev cX0_bagsHad : ByteArray := prog_2_method_29_code
def yX0_bagsHad : MethodName := ⟨RX0, "bagsHad", "()I"⟩
abbrev cX0_allBreath : ByteArray := prog_2_method_30_code
def yX0_allBreath : MethodName := ⟨RX0, "allBreath", "()I"⟩
abbrev cX0_ledOnes : ByteArray := prog_2_method_31_code
def yX0_ledOnes : MethodName := ⟨RX0, "ledOnes", "()I"⟩
abbrev cX0_allLedHours : ByteArray := prog_2_method_32_code
def yX0_allLedHours : MethodName := ⟨RX0, "allLedHours", "()I"⟩
abbrev cX0_allAtOnePlace : ByteArray := prog_2_method_33_code
def yX0_allAtOnePlace : MethodName := ⟨RX0, "allAtOnePlace", "()Z"⟩
abbrev cX0_rankOfBearer : ByteArray := prog_2_method_34_code
def yX0_rankOfBearer : MethodName := ⟨RX0, "rankOfBearer", "(I)I"⟩
abbrev cX0_bearerRanked : ByteArray := prog_2_method_35_code
def yX0_bearerRanked : MethodName := ⟨RX0, "bearerRanked", "(I)I"⟩
abbrev cX0_rankOfBag : ByteArray := prog_2_method_36_code
def yX0_rankOfBag : MethodName := ⟨RX0, "rankOfBag", "(I)I"⟩
abbrev cX0_bagRanked : ByteArray := prog_2_method_37_code
def yX0_bagRanked : MethodName := ⟨RX0, "bagRanked", "(I)I"⟩
def RX1 : String := "HandbagLady$Ways"
def TX1 : u_T := fun k => match k with
  | 0 => ("HandbagLady$Ways", "choice", "[I", true)
  | 1 => ("HandbagLady$Ways", "best", "[I", true)
  | 2 => ("HandbagLady$Ways", "bags", "I", false)
  | 3 => ("HandbagLady$Ways", "bearers", "I", false)
  | _ => ("HandbagLady$Ways", "codes", "I", false)
def tyX1 : Nat → FieldType := fun k => match k with
  | 0 => .array .int
  | 1 => .array .int
  | 2 => .int
  | 3 => .int
  | _ => .int
abbrev wsX10 : List Cond := u_ws RX1 TX1 5
theorem nmX1 : ∀ a, a < 5 → ∀ b, b < 5 → a ≠ b → (TX1 a).2.1 ≠ (TX1 b).2.1 := by decide +kernel
theorem tyX1_ok : ∀ k, k < 5 → parseFieldDescriptor (TX1 k).2.2.1 = some (tyX1 k) := by decide +kernel
abbrev cX1_init : ByteArray := prog_3_method_1_code
def yX1_init : MethodName := ⟨RX1, "<init>", "()V"⟩
abbrev cX1_start : ByteArray := prog_3_method_2_code
def yX1_start : MethodName := ⟨RX1, "start", "(II)V"⟩
abbrev cX1_decode : ByteArray := prog_3_method_3_code
def yX1_decode : MethodName := ⟨RX1, "decode", "(I)Z"⟩
abbrev cX1_keepBest : ByteArray := prog_3_method_4_code
def yX1_keepBest : MethodName := ⟨RX1, "keepBest", "()V"⟩
abbrev cX1_choiceOf : ByteArray := prog_3_method_5_code
def yX1_choiceOf : MethodName := ⟨RX1, "choiceOf", "(I)I"⟩
abbrev cX1_bestBagOf : ByteArray := prog_3_method_6_code
def yX1_bestBagOf : MethodName := ⟨RX1, "bestBagOf", "(I)I"⟩
def RX2 : String := "HandbagLady"
def TX2 : u_T := fun k => match k with
  | 0 => ("HandbagLady", "now", "LHandbagLady$Street;", true)
  | 1 => ("HandbagLady", "mind", "LHandbagLady$Street;", true)
  | 2 => ("HandbagLady", "picture", "LHandbagLady$Street;", true)
  | 3 => ("HandbagLady", "pictured", "Z", false)
  | 4 => ("HandbagLady", "past", "[LHandbagLady$Street;", true)
  | 5 => ("HandbagLady", "pastCount", "I", false)
  | 6 => ("HandbagLady", "letters", "[I", true)
  | 7 => ("HandbagLady", "letterCount", "I", false)
  | 8 => ("HandbagLady", "told", "[I", true)
  | 9 => ("HandbagLady", "toldCount", "I", false)
  | 10 => ("HandbagLady", "refusals", "[I", true)
  | 11 => ("HandbagLady", "tally", "[I", true)
  | _ => ("HandbagLady", "ways", "LHandbagLady$Ways;", true)
def tyX2 : Nat → FieldType := fun k => match k with
  | 0 => .object "HandbagLady$Street"
  | 1 => .object "HandbagLady$Street"
  | 2 => .object "HandbagLady$Street"
  | 3 => .boolean
  | 4 => .array (.object "HandbagLady$Street")
  | 5 => .int
  | 6 => .array .int
  | 7 => .int
  | 8 => .array .int
  | 9 => .int
  | 10 => .array .int
  | 11 => .array .int
  | _ => .object "HandbagLady$Ways"
abbrev wsX20 : List Cond := u_ws RX2 TX2 13
theorem nmX2 : ∀ a, a < 13 → ∀ b, b < 13 → a ≠ b → (TX2 a).2.1 ≠ (TX2 b).2.1 := by decide +kernel
theorem tyX2_ok : ∀ k, k < 13 → parseFieldDescriptor (TX2 k).2.2.1 = some (tyX2 k) := by decide +kernel
abbrev cX2_init : ByteArray := prog_1_method_1_code
def yX2_init : MethodName := ⟨RX2, "<init>", "()V"⟩
abbrev cX2_feed : ByteArray := prog_1_method_2_code
def yX2_feed : MethodName := ⟨RX2, "feed", "(I)I"⟩
abbrev cX2_bequest : ByteArray := prog_1_method_3_code
def yX2_bequest : MethodName := ⟨RX2, "bequest", "()I"⟩
abbrev cX2_formFault : ByteArray := prog_1_method_4_code
def yX2_formFault : MethodName := ⟨RX2, "formFault", "(I)I"⟩
abbrev cX2_digitsBehind : ByteArray := prog_1_method_5_code
def yX2_digitsBehind : MethodName := ⟨RX2, "digitsBehind", "(I)I"⟩
abbrev cX2_digitAt : ByteArray := prog_1_method_6_code
def yX2_digitAt : MethodName := ⟨RX2, "digitAt", "(I)I"⟩
abbrev cX2_carryOut : ByteArray := prog_1_method_7_code
def yX2_carryOut : MethodName := ⟨RX2, "carryOut", "(I)Z"⟩
abbrev cX2_bagOf : ByteArray := prog_1_method_8_code
def yX2_bagOf : MethodName := ⟨RX2, "bagOf", "(II)I"⟩
abbrev cX2_bearerOf : ByteArray := prog_1_method_9_code
def yX2_bearerOf : MethodName := ⟨RX2, "bearerOf", "(II)I"⟩
abbrev cX2_count : ByteArray := prog_1_method_10_code
def yX2_count : MethodName := ⟨RX2, "count", "(I)I"⟩
abbrev cX2_bag : ByteArray := prog_1_method_11_code
def yX2_bag : MethodName := ⟨RX2, "bag", "(III)I"⟩
abbrev cX2_bearer : ByteArray := prog_1_method_12_code
def yX2_bearer : MethodName := ⟨RX2, "bearer", "(III)I"⟩
abbrev cX2_gives : ByteArray := prog_1_method_13_code
def yX2_gives : MethodName := ⟨RX2, "gives", "(II)I"⟩
abbrev cX2_friends : ByteArray := prog_1_method_14_code
def yX2_friends : MethodName := ⟨RX2, "friends", "(II)I"⟩
abbrev cX2_wants : ByteArray := prog_1_method_15_code
def yX2_wants : MethodName := ⟨RX2, "wants", "(II)I"⟩
abbrev cX2_put : ByteArray := prog_1_method_16_code
def yX2_put : MethodName := ⟨RX2, "put", "(II)I"⟩
abbrev cX2_colonel : ByteArray := prog_1_method_17_code
def yX2_colonel : MethodName := ⟨RX2, "colonel", "(I)I"⟩
abbrev cX2_hours : ByteArray := prog_1_method_18_code
def yX2_hours : MethodName := ⟨RX2, "hours", "(I)I"⟩
abbrev cX2_back : ByteArray := prog_1_method_19_code
def yX2_back : MethodName := ⟨RX2, "back", "()I"⟩
abbrev cX2_image : ByteArray := prog_1_method_20_code
def yX2_image : MethodName := ⟨RX2, "image", "()I"⟩
abbrev cX2_restore : ByteArray := prog_1_method_21_code
def yX2_restore : MethodName := ⟨RX2, "restore", "()I"⟩
abbrev cX2_remember : ByteArray := prog_1_method_22_code
def yX2_remember : MethodName := ⟨RX2, "remember", "()V"⟩
abbrev cX2_forgetPast : ByteArray := prog_1_method_23_code
def yX2_forgetPast : MethodName := ⟨RX2, "forgetPast", "()V"⟩
abbrev cX2_behind : ByteArray := prog_1_method_24_code
def yX2_behind : MethodName := ⟨RX2, "behind", "(III)I"⟩
abbrev cX2_meet : ByteArray := prog_1_method_25_code
def yX2_meet : MethodName := ⟨RX2, "meet", "(II)I"⟩
abbrev cX2_company : ByteArray := prog_1_method_26_code
def yX2_company : MethodName := ⟨RX2, "company", "(II)I"⟩
abbrev cX2_breathless : ByteArray := prog_1_method_27_code
def yX2_breathless : MethodName := ⟨RX2, "breathless", "(I)I"⟩
abbrev cX2_firstOutOfBreath : ByteArray := prog_1_method_28_code
def yX2_firstOutOfBreath : MethodName := ⟨RX2, "firstOutOfBreath", "()I"⟩
abbrev cX2_snaps : ByteArray := prog_1_method_29_code
def yX2_snaps : MethodName := ⟨RX2, "snaps", "(II)I"⟩
abbrev cX2_whereColonel : ByteArray := prog_1_method_30_code
def yX2_whereColonel : MethodName := ⟨RX2, "whereColonel", "(I)I"⟩
abbrev cX2_leastLed : ByteArray := prog_1_method_31_code
def yX2_leastLed : MethodName := ⟨RX2, "leastLed", "()I"⟩
abbrev cX2_tired : ByteArray := prog_1_method_32_code
def yX2_tired : MethodName := ⟨RX2, "tired", "(I)I"⟩
abbrev cX2_visits : ByteArray := prog_1_method_33_code
def yX2_visits : MethodName := ⟨RX2, "visits", "(III)I"⟩
abbrev cX2_together : ByteArray := prog_1_method_34_code
def yX2_together : MethodName := ⟨RX2, "together", "(III)I"⟩
abbrev cX2_rests : ByteArray := prog_1_method_35_code
def yX2_rests : MethodName := ⟨RX2, "rests", "(II)I"⟩
abbrev cX2_firstSnap : ByteArray := prog_1_method_36_code
def yX2_firstSnap : MethodName := ⟨RX2, "firstSnap", "()I"⟩
abbrev cX2_busy : ByteArray := prog_1_method_37_code
def yX2_busy : MethodName := ⟨RX2, "busy", "(II)I"⟩
abbrev cX2_gathering : ByteArray := prog_1_method_38_code
def yX2_gathering : MethodName := ⟨RX2, "gathering", "()I"⟩
abbrev cX2_farthest : ByteArray := prog_1_method_39_code
def yX2_farthest : MethodName := ⟨RX2, "farthest", "(II)I"⟩
abbrev cX2_startPlaceTally : ByteArray := prog_1_method_40_code
def yX2_startPlaceTally : MethodName := ⟨RX2, "startPlaceTally", "()V"⟩
abbrev cX2_tallyPlaces : ByteArray := prog_1_method_41_code
def yX2_tallyPlaces : MethodName := ⟨RX2, "tallyPlaces", "()V"⟩
abbrev cX2_fullestPlace : ByteArray := prog_1_method_42_code
def yX2_fullestPlace : MethodName := ⟨RX2, "fullestPlace", "()I"⟩
abbrev cX2_bestBag : ByteArray := prog_1_method_43_code
def yX2_bestBag : MethodName := ⟨RX2, "bestBag", "(III)I"⟩
abbrev cX2_hers : ByteArray := prog_1_method_44_code
def yX2_hers : MethodName := ⟨RX2, "hers", "(I)I"⟩
abbrev cX2_errand : ByteArray := prog_1_method_45_code
def yX2_errand : MethodName := ⟨RX2, "errand", "(II)I"⟩
abbrev cX2_defy : ByteArray := prog_1_method_46_code
def yX2_defy : MethodName := ⟨RX2, "defy", "(III)I"⟩
abbrev cX2_bestHabit : ByteArray := prog_1_method_47_code
def yX2_bestHabit : MethodName := ⟨RX2, "bestHabit", "(II)I"⟩
abbrev cX2_tamed : ByteArray := prog_1_method_48_code
def yX2_tamed : MethodName := ⟨RX2, "tamed", "(I)I"⟩
abbrev cX2_swap : ByteArray := prog_1_method_49_code
def yX2_swap : MethodName := ⟨RX2, "swap", "(I)I"⟩
abbrev cX2_heir : ByteArray := prog_1_method_50_code
def yX2_heir : MethodName := ⟨RX2, "heir", "(I)I"⟩
abbrev cX2_strongestWilled : ByteArray := prog_1_method_51_code
def yX2_strongestWilled : MethodName := ⟨RX2, "strongestWilled", "()I"⟩
abbrev cX2_strongestBag : ByteArray := prog_1_method_52_code
def yX2_strongestBag : MethodName := ⟨RX2, "strongestBag", "()I"⟩
abbrev cX2_far : ByteArray := prog_1_method_53_code
def yX2_far : MethodName := ⟨RX2, "far", "(II)I"⟩
abbrev cX2_lots : ByteArray := prog_1_method_54_code
def yX2_lots : MethodName := ⟨RX2, "lots", "(III)I"⟩
abbrev cX2_given : ByteArray := prog_1_method_55_code
def yX2_given : MethodName := ⟨RX2, "given", "(III)I"⟩
abbrev cX2_quiet : ByteArray := prog_1_method_56_code
def yX2_quiet : MethodName := ⟨RX2, "quiet", "(II)I"⟩
abbrev cX2_ledHoursBelow : ByteArray := prog_1_method_57_code
def yX2_ledHoursBelow : MethodName := ⟨RX2, "ledHoursBelow", "(II)I"⟩
abbrev cX2_thinkGiven : ByteArray := prog_1_method_58_code
def yX2_thinkGiven : MethodName := ⟨RX2, "thinkGiven", "()V"⟩
abbrev cX2_stable : ByteArray := prog_1_method_59_code
def yX2_stable : MethodName := ⟨RX2, "stable", "(I)I"⟩
abbrev cX2_unled : ByteArray := prog_1_method_60_code
def yX2_unled : MethodName := ⟨RX2, "unled", "()I"⟩
abbrev cX2_row : ByteArray := prog_1_method_61_code
def yX2_row : MethodName := ⟨RX2, "row", "(I)I"⟩
abbrev cX2_judge : ByteArray := prog_1_method_62_code
def yX2_judge : MethodName := ⟨RX2, "judge", "(I)I"⟩
abbrev cX2_clear : ByteArray := prog_1_method_63_code
def yX2_clear : MethodName := ⟨RX2, "clear", "()I"⟩
abbrev cX2_firstUntrue : ByteArray := prog_1_method_64_code
def yX2_firstUntrue : MethodName := ⟨RX2, "firstUntrue", "(I)I"⟩
abbrev cX2_whose : ByteArray := prog_1_method_65_code
def yX2_whose : MethodName := ⟨RX2, "whose", "(II)I"⟩
abbrev cX2_nextTell : ByteArray := prog_1_method_66_code
def yX2_nextTell : MethodName := ⟨RX2, "nextTell", "(III)I"⟩
abbrev cX2_placesByKinds : ByteArray := prog_1_method_67_code
def yX2_placesByKinds : MethodName := ⟨RX2, "placesByKinds", "(IIII)I"⟩
abbrev cX2_arm : ByteArray := prog_1_method_68_code
def yX2_arm : MethodName := ⟨RX2, "arm", "(III)I"⟩
abbrev cX2_sleep : ByteArray := prog_1_method_69_code
def yX2_sleep : MethodName := ⟨RX2, "sleep", "(IIIII)J"⟩
abbrev cX2_wrongSleep : ByteArray := prog_1_method_70_code
def yX2_wrongSleep : MethodName := ⟨RX2, "wrongSleep", "(IIIII)I"⟩
abbrev cX2_walkAsleep : ByteArray := prog_1_method_71_code
def yX2_walkAsleep : MethodName := ⟨RX2, "walkAsleep", "(IIII)J"⟩
abbrev cX2_commonDivisor : ByteArray := prog_1_method_72_code
def yX2_commonDivisor : MethodName := ⟨RX2, "commonDivisor", "(JJ)J"⟩
abbrev cX2_refuse : ByteArray := prog_1_method_73_code
def yX2_refuse : MethodName := ⟨RX2, "refuse", "(I)I"⟩
abbrev cX2_wrongHours : ByteArray := prog_1_method_74_code
def yX2_wrongHours : MethodName := ⟨RX2, "wrongHours", "(I)I"⟩
abbrev cX2_wrongHoursOrWhat : ByteArray := prog_1_method_75_code
def yX2_wrongHoursOrWhat : MethodName := ⟨RX2, "wrongHoursOrWhat", "(III)I"⟩
abbrev cX2_areTwo : ByteArray := prog_1_method_76_code
def yX2_areTwo : MethodName := ⟨RX2, "areTwo", "(II)Z"⟩
abbrev cX2_isPlace : ByteArray := prog_1_method_77_code
def yX2_isPlace : MethodName := ⟨RX2, "isPlace", "(I)Z"⟩
abbrev cX2_orNone : ByteArray := prog_1_method_78_code
def yX2_orNone : MethodName := ⟨RX2, "orNone", "(I)I"⟩
abbrev cX2_placesApart : ByteArray := prog_1_method_79_code
def yX2_placesApart : MethodName := ⟨RX2, "placesApart", "(II)I"⟩
abbrev cX2_think : ByteArray := prog_1_method_80_code
def yX2_think : MethodName := ⟨RX2, "think", "()V"⟩
abbrev cX2_firstAt : ByteArray := prog_1_method_81_code
def yX2_firstAt : MethodName := ⟨RX2, "firstAt", "(III)I"⟩
abbrev cX2_firstMeeting : ByteArray := prog_1_method_82_code
def yX2_firstMeeting : MethodName := ⟨RX2, "firstMeeting", "(III)I"⟩
def RX3 : String := "HandbagLadyModel"
def TX3 : u_T := fun k => match k with
  | 0 => ("HandbagLadyModel", "refused", "[I", true)
  | 1 => ("HandbagLadyModel", "kind", "[I", true)
  | 2 => ("HandbagLadyModel", "figure", "[I", true)
  | 3 => ("HandbagLadyModel", "habit", "[I", true)
  | 4 => ("HandbagLadyModel", "friend", "[I", true)
  | 5 => ("HandbagLadyModel", "held", "[I", true)
  | 6 => ("HandbagLadyModel", "will", "[I", true)
  | 7 => ("HandbagLadyModel", "want", "[I", true)
  | 8 => ("HandbagLadyModel", "at", "[I", true)
  | 9 => ("HandbagLadyModel", "own", "[I", true)
  | 10 => ("HandbagLadyModel", "breath", "[I", true)
  | 11 => ("HandbagLadyModel", "bags", "I", false)
  | 12 => ("HandbagLadyModel", "bearers", "I", false)
  | 13 => ("HandbagLadyModel", "hour", "I", false)
  | 14 => ("HandbagLadyModel", "colonel", "I", false)
  | 15 => ("HandbagLadyModel", "tape", "[I", true)
  | 16 => ("HandbagLadyModel", "letter", "[I", true)
  | 17 => ("HandbagLadyModel", "letterAt", "[I", true)
  | 18 => ("HandbagLadyModel", "told", "[I", true)
  | 19 => ("HandbagLadyModel", "taped", "I", false)
  | 20 => ("HandbagLadyModel", "place", "I", false)
  | 21 => ("HandbagLadyModel", "statements", "I", false)
  | 22 => ("HandbagLadyModel", "kept", "[I", true)
  | 23 => ("HandbagLadyModel", "hasImage", "Z", false)
  | 24 => ("HandbagLadyModel", "isKeeping", "Z", false)
  | 25 => ("HandbagLadyModel", "cursor", "I", false)
  | 26 => ("HandbagLadyModel", "backs", "I", false)
  | 27 => ("HandbagLadyModel", "hoursLed", "[I", true)
  | 28 => ("HandbagLadyModel", "rested", "[I", true)
  | 29 => ("HandbagLadyModel", "snapped", "I", false)
  | 30 => ("HandbagLadyModel", "sleeper", "I", false)
  | 31 => ("HandbagLadyModel", "bestValue", "I", false)
  | 32 => ("HandbagLadyModel", "asked", "[I", true)
  | 33 => ("HandbagLadyModel", "keeps", "[I", true)
  | 34 => ("HandbagLadyModel", "row", "[I", true)
  | 35 => ("HandbagLadyModel", "rowMany", "I", false)
  | 36 => ("HandbagLadyModel", "often", "[I", true)
  | _ => ("HandbagLadyModel", "unledBy", "[I", true)
def tyX3 : Nat → FieldType := fun k => match k with
  | 0 => .array .int
  | 1 => .array .int
  | 2 => .array .int
  | 3 => .array .int
  | 4 => .array .int
  | 5 => .array .int
  | 6 => .array .int
  | 7 => .array .int
  | 8 => .array .int
  | 9 => .array .int
  | 10 => .array .int
  | 11 => .int
  | 12 => .int
  | 13 => .int
  | 14 => .int
  | 15 => .array .int
  | 16 => .array .int
  | 17 => .array .int
  | 18 => .array .int
  | 19 => .int
  | 20 => .int
  | 21 => .int
  | 22 => .array .int
  | 23 => .boolean
  | 24 => .boolean
  | 25 => .int
  | 26 => .int
  | 27 => .array .int
  | 28 => .array .int
  | 29 => .int
  | 30 => .int
  | 31 => .int
  | 32 => .array .int
  | 33 => .array .int
  | 34 => .array .int
  | 35 => .int
  | 36 => .array .int
  | _ => .array .int
abbrev wsX30 : List Cond := u_ws RX3 TX3 38
theorem nmX3 : ∀ a, a < 38 → ∀ b, b < 38 → a ≠ b → (TX3 a).2.1 ≠ (TX3 b).2.1 := by decide +kernel
theorem tyX3_ok : ∀ k, k < 38 → parseFieldDescriptor (TX3 k).2.2.1 = some (tyX3 k) := by decide +kernel
abbrev cX3_init : ByteArray := prog_5_method_1_code
def yX3_init : MethodName := ⟨RX3, "<init>", "()V"⟩
abbrev cX3_no : ByteArray := prog_5_method_2_code
def yX3_no : MethodName := ⟨RX3, "no", "(I)I"⟩
abbrev cX3_lowest : ByteArray := prog_5_method_3_code
def yX3_lowest : MethodName := ⟨RX3, "lowest", "(I)J"⟩
abbrev cX3_isIn : ByteArray := prog_5_method_4_code
def yX3_isIn : MethodName := ⟨RX3, "isIn", "(III)Z"⟩
abbrev cX3_bound : ByteArray := prog_5_method_5_code
def yX3_bound : MethodName := ⟨RX3, "bound", "(III)I"⟩
abbrev cX3_isBag : ByteArray := prog_5_method_6_code
def yX3_isBag : MethodName := ⟨RX3, "isBag", "(I)Z"⟩
abbrev cX3_isBearer : ByteArray := prog_5_method_7_code
def yX3_isBearer : MethodName := ⟨RX3, "isBearer", "(I)Z"⟩
abbrev cX3_isPlace : ByteArray := prog_5_method_8_code
def yX3_isPlace : MethodName := ⟨RX3, "isPlace", "(I)Z"⟩
abbrev cX3_areTwo : ByteArray := prog_5_method_9_code
def yX3_areTwo : MethodName := ⟨RX3, "areTwo", "(II)Z"⟩
abbrev cX3_feed : ByteArray := prog_5_method_10_code
def yX3_feed : MethodName := ⟨RX3, "feed", "(I)I"⟩
abbrev cX3_next : ByteArray := prog_5_method_11_code
def yX3_next : MethodName := ⟨RX3, "next", "()I"⟩
abbrev cX3_readsDigits : ByteArray := prog_5_method_12_code
def yX3_readsDigits : MethodName := ⟨RX3, "readsDigits", "(II)Z"⟩
abbrev cX3_readsAll : ByteArray := prog_5_method_13_code
def yX3_readsAll : MethodName := ⟨RX3, "readsAll", "(II)Z"⟩
abbrev cX3_statement : ByteArray := prog_5_method_14_code
def yX3_statement : MethodName := ⟨RX3, "statement", "()Z"⟩
abbrev cX3_comesHours : ByteArray := prog_5_method_15_code
def yX3_comesHours : MethodName := ⟨RX3, "comesHours", "(I)Z"⟩
abbrev cX3_comes : ByteArray := prog_5_method_16_code
def yX3_comes : MethodName := ⟨RX3, "comes", "(I)Z"⟩
abbrev cX3_bequest : ByteArray := prog_5_method_17_code
def yX3_bequest : MethodName := ⟨RX3, "bequest", "()I"⟩
abbrev cX3_passes : ByteArray := prog_5_method_18_code
def yX3_passes : MethodName := ⟨RX3, "passes", "([I)V"⟩
abbrev cX3_passOne : ByteArray := prog_5_method_19_code
def yX3_passOne : MethodName := ⟨RX3, "passOne", "(I)I"⟩
abbrev cX3_passesAll : ByteArray := prog_5_method_20_code
def yX3_passesAll : MethodName := ⟨RX3, "passesAll", "(IZ)V"⟩
abbrev cX3_thinks : ByteArray := prog_5_method_21_code
def yX3_thinks : MethodName := ⟨RX3, "thinks", "()V"⟩
abbrev cX3_forgets : ByteArray := prog_5_method_22_code
def yX3_forgets : MethodName := ⟨RX3, "forgets", "()V"⟩
abbrev cX3_keepsBack : ByteArray := prog_5_method_23_code
def yX3_keepsBack : MethodName := ⟨RX3, "keepsBack", "()V"⟩
abbrev cX3_back : ByteArray := prog_5_method_24_code
def yX3_back : MethodName := ⟨RX3, "back", "()I"⟩
abbrev cX3_image : ByteArray := prog_5_method_25_code
def yX3_image : MethodName := ⟨RX3, "image", "()I"⟩
abbrev cX3_restore : ByteArray := prog_5_method_26_code
def yX3_restore : MethodName := ⟨RX3, "restore", "()I"⟩
abbrev cX3_addsBag : ByteArray := prog_5_method_27_code
def yX3_addsBag : MethodName := ⟨RX3, "addsBag", "(III)V"⟩
abbrev cX3_addsBearer : ByteArray := prog_5_method_28_code
def yX3_addsBearer : MethodName := ⟨RX3, "addsBearer", "(III)V"⟩
abbrev cX3_whoHas : ByteArray := prog_5_method_29_code
def yX3_whoHas : MethodName := ⟨RX3, "whoHas", "(I)I"⟩
abbrev cX3_givesHer : ByteArray := prog_5_method_30_code
def yX3_givesHer : MethodName := ⟨RX3, "givesHer", "(II)V"⟩
abbrev cX3_unfriends : ByteArray := prog_5_method_31_code
def yX3_unfriends : MethodName := ⟨RX3, "unfriends", "(I)V"⟩
abbrev cX3_befriends : ByteArray := prog_5_method_32_code
def yX3_befriends : MethodName := ⟨RX3, "befriends", "(II)V"⟩
abbrev cX3_isFriendOut : ByteArray := prog_5_method_33_code
def yX3_isFriendOut : MethodName := ⟨RX3, "isFriendOut", "(I)Z"⟩
abbrev cX3_pullOf : ByteArray := prog_5_method_34_code
def yX3_pullOf : MethodName := ⟨RX3, "pullOf", "(I)I"⟩
abbrev cX3_goalOf : ByteArray := prog_5_method_35_code
def yX3_goalOf : MethodName := ⟨RX3, "goalOf", "(II)I"⟩
abbrev cX3_isLed : ByteArray := prog_5_method_36_code
def yX3_isLed : MethodName := ⟨RX3, "isLed", "(I)Z"⟩
abbrev cX3_towards : ByteArray := prog_5_method_37_code
def yX3_towards : MethodName := ⟨RX3, "towards", "(II)I"⟩
abbrev cX3_goesLed : ByteArray := prog_5_method_38_code
def yX3_goesLed : MethodName := ⟨RX3, "goesLed", "(I)V"⟩
abbrev cX3_goesOne : ByteArray := prog_5_method_39_code
def yX3_goesOne : MethodName := ⟨RX3, "goesOne", "(IZ)V"⟩
abbrev cX3_goesHour : ByteArray := prog_5_method_40_code
def yX3_goesHour : MethodName := ⟨RX3, "goesHour", "(Z)V"⟩
abbrev cX3_counts : ByteArray := prog_5_method_41_code
def yX3_counts : MethodName := ⟨RX3, "counts", "()V"⟩
abbrev cX3_goes : ByteArray := prog_5_method_42_code
def yX3_goes : MethodName := ⟨RX3, "goes", "(I)V"⟩
abbrev cX3_bagOf : ByteArray := prog_5_method_43_code
def yX3_bagOf : MethodName := ⟨RX3, "bagOf", "(II)I"⟩
abbrev cX3_bagNow : ByteArray := prog_5_method_44_code
def yX3_bagNow : MethodName := ⟨RX3, "bagNow", "(I)I"⟩
abbrev cX3_bearerOf : ByteArray := prog_5_method_45_code
def yX3_bearerOf : MethodName := ⟨RX3, "bearerOf", "(II)I"⟩
abbrev cX3_bag : ByteArray := prog_5_method_46_code
def yX3_bag : MethodName := ⟨RX3, "bag", "(III)I"⟩
abbrev cX3_bearer : ByteArray := prog_5_method_47_code
def yX3_bearer : MethodName := ⟨RX3, "bearer", "(III)I"⟩
abbrev cX3_gives : ByteArray := prog_5_method_48_code
def yX3_gives : MethodName := ⟨RX3, "gives", "(II)I"⟩
abbrev cX3_friends : ByteArray := prog_5_method_49_code
def yX3_friends : MethodName := ⟨RX3, "friends", "(II)I"⟩
abbrev cX3_wants : ByteArray := prog_5_method_50_code
def yX3_wants : MethodName := ⟨RX3, "wants", "(II)I"⟩
abbrev cX3_put : ByteArray := prog_5_method_51_code
def yX3_put : MethodName := ⟨RX3, "put", "(II)I"⟩
abbrev cX3_colonel : ByteArray := prog_5_method_52_code
def yX3_colonel : MethodName := ⟨RX3, "colonel", "(I)I"⟩
abbrev cX3_hours : ByteArray := prog_5_method_53_code
def yX3_hours : MethodName := ⟨RX3, "hours", "(I)I"⟩
abbrev cX3_notHours : ByteArray := prog_5_method_54_code
def yX3_notHours : MethodName := ⟨RX3, "notHours", "(I)I"⟩
abbrev cX3_behind : ByteArray := prog_5_method_55_code
def yX3_behind : MethodName := ⟨RX3, "behind", "(III)I"⟩
abbrev cX3_meetsIn : ByteArray := prog_5_method_56_code
def yX3_meetsIn : MethodName := ⟨RX3, "meetsIn", "(II)I"⟩
abbrev cX3_meet : ByteArray := prog_5_method_57_code
def yX3_meet : MethodName := ⟨RX3, "meet", "(II)I"⟩
abbrev cX3_manyAt : ByteArray := prog_5_method_58_code
def yX3_manyAt : MethodName := ⟨RX3, "manyAt", "(I)I"⟩
abbrev cX3_company : ByteArray := prog_5_method_59_code
def yX3_company : MethodName := ⟨RX3, "company", "(II)I"⟩
abbrev cX3_outOf : ByteArray := prog_5_method_60_code
def yX3_outOf : MethodName := ⟨RX3, "outOf", "(I)I"⟩
abbrev cX3_breathless : ByteArray := prog_5_method_61_code
def yX3_breathless : MethodName := ⟨RX3, "breathless", "(I)I"⟩
abbrev cX3_snapsIn : ByteArray := prog_5_method_62_code
def yX3_snapsIn : MethodName := ⟨RX3, "snapsIn", "(I)I"⟩
abbrev cX3_bestColonel : ByteArray := prog_5_method_63_code
def yX3_bestColonel : MethodName := ⟨RX3, "bestColonel", "(I)I"⟩
abbrev cX3_leastLed : ByteArray := prog_5_method_64_code
def yX3_leastLed : MethodName := ⟨RX3, "leastLed", "(I)I"⟩
abbrev cX3_snaps : ByteArray := prog_5_method_65_code
def yX3_snaps : MethodName := ⟨RX3, "snaps", "(II)I"⟩
abbrev cX3_comesTo : ByteArray := prog_5_method_66_code
def yX3_comesTo : MethodName := ⟨RX3, "comesTo", "(III)I"⟩
abbrev cX3_comesWith : ByteArray := prog_5_method_67_code
def yX3_comesWith : MethodName := ⟨RX3, "comesWith", "(III)I"⟩
abbrev cX3_bestBag : ByteArray := prog_5_method_68_code
def yX3_bestBag : MethodName := ⟨RX3, "bestBag", "(III)I"⟩
abbrev cX3_hers : ByteArray := prog_5_method_69_code
def yX3_hers : MethodName := ⟨RX3, "hers", "(I)I"⟩
abbrev cX3_errandBy : ByteArray := prog_5_method_70_code
def yX3_errandBy : MethodName := ⟨RX3, "errandBy", "(IIII)I"⟩
abbrev cX3_errand : ByteArray := prog_5_method_71_code
def yX3_errand : MethodName := ⟨RX3, "errand", "(II)I"⟩
abbrev cX3_defy : ByteArray := prog_5_method_72_code
def yX3_defy : MethodName := ⟨RX3, "defy", "(III)I"⟩
abbrev cX3_digitOf : ByteArray := prog_5_method_73_code
def yX3_digitOf : MethodName := ⟨RX3, "digitOf", "(II)I"⟩
abbrev cX3_isWay : ByteArray := prog_5_method_74_code
def yX3_isWay : MethodName := ⟨RX3, "isWay", "(I)Z"⟩
abbrev cX3_givesAll : ByteArray := prog_5_method_75_code
def yX3_givesAll : MethodName := ⟨RX3, "givesAll", "(I)V"⟩
abbrev cX3_manyWays : ByteArray := prog_5_method_76_code
def yX3_manyWays : MethodName := ⟨RX3, "manyWays", "()I"⟩
abbrev cX3_allLed : ByteArray := prog_5_method_77_code
def yX3_allLed : MethodName := ⟨RX3, "allLed", "(I)I"⟩
abbrev cX3_bestWay : ByteArray := prog_5_method_78_code
def yX3_bestWay : MethodName := ⟨RX3, "bestWay", "(III)I"⟩
abbrev cX3_bagBy : ByteArray := prog_5_method_79_code
def yX3_bagBy : MethodName := ⟨RX3, "bagBy", "(II)I"⟩
abbrev cX3_given : ByteArray := prog_5_method_80_code
def yX3_given : MethodName := ⟨RX3, "given", "(III)I"⟩
abbrev cX3_quiet : ByteArray := prog_5_method_81_code
def yX3_quiet : MethodName := ⟨RX3, "quiet", "(II)I"⟩
abbrev cX3_plainPull : ByteArray := prog_5_method_82_code
def yX3_plainPull : MethodName := ⟨RX3, "plainPull", "(I)I"⟩
abbrev cX3_nextAsked : ByteArray := prog_5_method_83_code
def yX3_nextAsked : MethodName := ⟨RX3, "nextAsked", "(I)I"⟩
abbrev cX3_isRather : ByteArray := prog_5_method_84_code
def yX3_isRather : MethodName := ⟨RX3, "isRather", "(II)Z"⟩
abbrev cX3_isKept : ByteArray := prog_5_method_85_code
def yX3_isKept : MethodName := ⟨RX3, "isKept", "(I)Z"⟩
abbrev cX3_asks : ByteArray := prog_5_method_86_code
def yX3_asks : MethodName := ⟨RX3, "asks", "(I)Z"⟩
abbrev cX3_stable : ByteArray := prog_5_method_87_code
def yX3_stable : MethodName := ⟨RX3, "stable", "(I)I"⟩
abbrev cX3_walksSo : ByteArray := prog_5_method_88_code
def yX3_walksSo : MethodName := ⟨RX3, "walksSo", "(I)Z"⟩
abbrev cX3_bitsFor : ByteArray := prog_5_method_89_code
def yX3_bitsFor : MethodName := ⟨RX3, "bitsFor", "(I[III)I"⟩
abbrev cX3_whose : ByteArray := prog_5_method_90_code
def yX3_whose : MethodName := ⟨RX3, "whose", "(II)I"⟩
abbrev cX3_atIn : ByteArray := prog_5_method_91_code
def yX3_atIn : MethodName := ⟨RX3, "atIn", "(II)I"⟩
abbrev cX3_unlikeBy : ByteArray := prog_5_method_92_code
def yX3_unlikeBy : MethodName := ⟨RX3, "unlikeBy", "(II)I"⟩
abbrev cX3_nextTell : ByteArray := prog_5_method_93_code
def yX3_nextTell : MethodName := ⟨RX3, "nextTell", "(III)I"⟩
abbrev cX3_above : ByteArray := prog_5_method_94_code
def yX3_above : MethodName := ⟨RX3, "above", "(I)I"⟩
abbrev cX3_goesArm : ByteArray := prog_5_method_95_code
def yX3_goesArm : MethodName := ⟨RX3, "goesArm", "(II)V"⟩
abbrev cX3_arm : ByteArray := prog_5_method_96_code
def yX3_arm : MethodName := ⟨RX3, "arm", "(III)I"⟩
abbrev cX3_divisor : ByteArray := prog_5_method_97_code
def yX3_divisor : MethodName := ⟨RX3, "divisor", "(JJ)J"⟩
abbrev cX3_sleep : ByteArray := prog_5_method_98_code
def yX3_sleep : MethodName := ⟨RX3, "sleep", "(IIIII)J"⟩
abbrev cX3_ledSwapped : ByteArray := prog_5_method_99_code
def yX3_ledSwapped : MethodName := ⟨RX3, "ledSwapped", "(III)I"⟩
abbrev cX3_swap : ByteArray := prog_5_method_100_code
def yX3_swap : MethodName := ⟨RX3, "swap", "(I)I"⟩
abbrev cX3_heir : ByteArray := prog_5_method_101_code
def yX3_heir : MethodName := ⟨RX3, "heir", "(I)I"⟩
abbrev cX3_far : ByteArray := prog_5_method_102_code
def yX3_far : MethodName := ⟨RX3, "far", "(II)I"⟩
abbrev cX3_allBreath : ByteArray := prog_5_method_103_code
def yX3_allBreath : MethodName := ⟨RX3, "allBreath", "()I"⟩
abbrev cX3_tired : ByteArray := prog_5_method_104_code
def yX3_tired : MethodName := ⟨RX3, "tired", "(I)I"⟩
abbrev cX3_visits : ByteArray := prog_5_method_105_code
def yX3_visits : MethodName := ⟨RX3, "visits", "(III)I"⟩
abbrev cX3_together : ByteArray := prog_5_method_106_code
def yX3_together : MethodName := ⟨RX3, "together", "(III)I"⟩
abbrev cX3_rests : ByteArray := prog_5_method_107_code
def yX3_rests : MethodName := ⟨RX3, "rests", "(II)I"⟩
abbrev cX3_firstSnap : ByteArray := prog_5_method_108_code
def yX3_firstSnap : MethodName := ⟨RX3, "firstSnap", "()I"⟩
abbrev cX3_busy : ByteArray := prog_5_method_109_code
def yX3_busy : MethodName := ⟨RX3, "busy", "(II)I"⟩
abbrev cX3_tamed : ByteArray := prog_5_method_110_code
def yX3_tamed : MethodName := ⟨RX3, "tamed", "(I)I"⟩
abbrev cX3_unled : ByteArray := prog_5_method_111_code
def yX3_unled : MethodName := ⟨RX3, "unled", "()I"⟩
abbrev cX3_areAtOne : ByteArray := prog_5_method_112_code
def yX3_areAtOne : MethodName := ⟨RX3, "areAtOne", "()Z"⟩
abbrev cX3_gathering : ByteArray := prog_5_method_113_code
def yX3_gathering : MethodName := ⟨RX3, "gathering", "()I"⟩
abbrev cX3_bestHabit : ByteArray := prog_5_method_114_code
def yX3_bestHabit : MethodName := ⟨RX3, "bestHabit", "(II)I"⟩
abbrev cX3_apart : ByteArray := prog_5_method_115_code
def yX3_apart : MethodName := ⟨RX3, "apart", "(II)I"⟩
abbrev cX3_farthest : ByteArray := prog_5_method_116_code
def yX3_farthest : MethodName := ⟨RX3, "farthest", "(II)I"⟩
abbrev cX3_row : ByteArray := prog_5_method_117_code
def yX3_row : MethodName := ⟨RX3, "row", "(I)I"⟩
abbrev cX3_judge : ByteArray := prog_5_method_118_code
def yX3_judge : MethodName := ⟨RX3, "judge", "(I)I"⟩
abbrev cX3_clear : ByteArray := prog_5_method_119_code
def yX3_clear : MethodName := ⟨RX3, "clear", "()I"⟩
abbrev cX3_lots : ByteArray := prog_5_method_120_code
def yX3_lots : MethodName := ⟨RX3, "lots", "(III)I"⟩
abbrev cX3_count : ByteArray := prog_5_method_121_code
def yX3_count : MethodName := ⟨RX3, "count", "(I)I"⟩
def RJ6 : String := "java/lang/Integer"
def TJ6 : u_T := fun k => match k with
  | _ => ("", "", "", false)
def tyJ6 : Nat → FieldType := fun k => match k with
  | _ => .int
abbrev wsJ60 : List Cond := u_ws RJ6 TJ6 0
theorem nmJ6 : ∀ a, a < 0 → ∀ b, b < 0 → a ≠ b → (TJ6 a).2.1 ≠ (TJ6 b).2.1 := by decide +kernel
theorem tyJ6_ok : ∀ k, k < 0 → parseFieldDescriptor (TJ6 k).2.2.1 = some (tyJ6 k) := by decide +kernel
abbrev cJ6_compare_7cf53 : ByteArray := prog_6_method_40_code
def yJ6_compare_7cf53 : MethodName := ⟨RJ6, "compare", "(II)I"⟩
abbrev cJ6_bitCount_0f7a4 : ByteArray := prog_6_method_49_code
def yJ6_bitCount_0f7a4 : MethodName := ⟨RJ6, "bitCount", "(I)I"⟩
def RJ9 : String := "java/lang/Math"
def TJ9 : u_T := fun k => match k with
  | _ => ("", "", "", false)
def tyJ9 : Nat → FieldType := fun k => match k with
  | _ => .int
abbrev wsJ90 : List Cond := u_ws RJ9 TJ9 0
theorem nmJ9 : ∀ a, a < 0 → ∀ b, b < 0 → a ≠ b → (TJ9 a).2.1 ≠ (TJ9 b).2.1 := by decide +kernel
theorem tyJ9_ok : ∀ k, k < 0 → parseFieldDescriptor (TJ9 k).2.2.1 = some (tyJ9 k) := by decide +kernel
abbrev cJ9_floorMod_7cf53 : ByteArray := prog_7_method_50_code
def yJ9_floorMod_7cf53 : MethodName := ⟨RJ9, "floorMod", "(II)I"⟩
abbrev cJ9_max_7cf53 : ByteArray := prog_7_method_65_code
def yJ9_max_7cf53 : MethodName := ⟨RJ9, "max", "(II)I"⟩
abbrev cJ9_min_7cf53 : ByteArray := prog_7_method_69_code
def yJ9_min_7cf53 : MethodName := ⟨RJ9, "min", "(II)I"⟩
def RJ10 : String := "java/lang/System"
def TJ10 : u_T := fun k => match k with
  | _ => ("", "", "", false)
def tyJ10 : Nat → FieldType := fun k => match k with
  | _ => .int
abbrev wsJ100 : List Cond := u_ws RJ10 TJ10 0
theorem nmJ10 : ∀ a, a < 0 → ∀ b, b < 0 → a ≠ b → (TJ10 a).2.1 ≠ (TJ10 b).2.1 := by decide +kernel
theorem tyJ10_ok : ∀ k, k < 0 → parseFieldDescriptor (TJ10 k).2.2.1 = some (tyJ10 k) := by decide +kernel
def RL : String := "HandbagLadyLaw"
abbrev cL_law : ByteArray := code
def yL_law : MethodName := ⟨RL, "law", "([I)Z"⟩
end
section
/-! THE STATE that both classes read and write, and how it lies in the heap: V o k i is field k of object o at place i (a plain field at place 0);
the second part says which street stands at a place of the row of streets -/
abbrev VT : Type := Nat → Nat → Nat → Int32
abbrev ST : Type := VT × (Nat → Nat)
/-- where it lies: the first address, the classes, the places of the fields, the two classes of arrays -/
abbrev LY : Type := Nat × (Nat → ClassId) × (Nat → Nat → Nat) × ClassId × ClassId
abbrev clU : List vw_C := [(RX0, TX0, 19), (RX1, TX1, 5), (RX2, TX2, 13), (RX3, TX3, 38)]
def co (o : Nat) : Nat := if o = 0 then 2 else if o ≤ 11 then 0 else if o = 12 then 1 else 3
def NF (c : Nat) : Nat := ([19, 5, 13, 38] : List Nat).getD c 0
def fkL : List (List Nat) := [[0, 7, 7, 7, 7, 7, 7, 0, 6, 6, 6, 6, 6, 0, 0, 6, 6, 0, 0], [5, 5, 0, 0, 0], [1001, 1002, 1003, 0, 2000, 0, 97, 0, 13, 0, 8, 11, 1012], [8, 7, 7, 7, 7, 7, 6, 6, 6, 6, 6, 0, 0, 0, 0, 97, 49, 49, 145, 0, 0, 0, 661, 0, 0, 0, 0, 6, 6, 0, 0, 0, 6, 7, 13, 0, 11, 65]]
def fk (c k : Nat) : Nat := (fkL.getD c []).getD k 0
def nadL : List Nat := [0, 1, 15, 29, 51, 65, 79, 93, 107, 121, 135, 149, 48, 163]
def naaL : List (List Nat) := [[0, 0, 0, 0, 43, 0, 44, 0, 45, 0, 46, 47, 0], [0, 2, 3, 4, 5, 6, 7, 0, 8, 9, 10, 11, 12, 0, 0, 13, 14, 0, 0], [0, 16, 17, 18, 19, 20, 21, 0, 22, 23, 24, 25, 26, 0, 0, 27, 28, 0, 0], [0, 30, 31, 32, 33, 34, 35, 0, 36, 37, 38, 39, 40, 0, 0, 41, 42, 0, 0], [0, 52, 53, 54, 55, 56, 57, 0, 58, 59, 60, 61, 62, 0, 0, 63, 64, 0, 0], [0, 66, 67, 68, 69, 70, 71, 0, 72, 73, 74, 75, 76, 0, 0, 77, 78, 0, 0], [0, 80, 81, 82, 83, 84, 85, 0, 86, 87, 88, 89, 90, 0, 0, 91, 92, 0, 0], [0, 94, 95, 96, 97, 98, 99, 0, 100, 101, 102, 103, 104, 0, 0, 105, 106, 0, 0], [0, 108, 109, 110, 111, 112, 113, 0, 114, 115, 116, 117, 118, 0, 0, 119, 120, 0, 0], [0, 122, 123, 124, 125, 126, 127, 0, 128, 129, 130, 131, 132, 0, 0, 133, 134, 0, 0], [0, 136, 137, 138, 139, 140, 141, 0, 142, 143, 144, 145, 146, 0, 0, 147, 148, 0, 0], [0, 150, 151, 152, 153, 154, 155, 0, 156, 157, 158, 159, 160, 0, 0, 161, 162, 0, 0], [49, 50, 0, 0, 0], [164, 165, 166, 167, 168, 169, 170, 171, 172, 173, 174, 0, 0, 0, 0, 175, 176, 177, 178, 0, 0, 0, 179, 0, 0, 0, 0, 180, 181, 0, 0, 0, 182, 183, 184, 0, 185, 186]]
def invL : List (Nat × Nat) := [(0, 0), (1, 0), (1, 2), (1, 3), (1, 4), (1, 5), (1, 6), (1, 7), (1, 9), (1, 10), (1, 11), (1, 12), (1, 13), (1, 16), (1, 17), (2, 0), (2, 2), (2, 3), (2, 4), (2, 5), (2, 6), (2, 7), (2, 9), (2, 10), (2, 11), (2, 12), (2, 13), (2, 16), (2, 17), (3, 0), (3, 2), (3, 3), (3, 4), (3, 5), (3, 6), (3, 7), (3, 9), (3, 10), (3, 11), (3, 12), (3, 13), (3, 16), (3, 17), (0, 5), (0, 7), (0, 9), (0, 11), (0, 12), (12, 0), (12, 1), (12, 2), (4, 0), (4, 2), (4, 3), (4, 4), (4, 5), (4, 6), (4, 7), (4, 9), (4, 10), (4, 11), (4, 12), (4, 13), (4, 16), (4, 17), (5, 0), (5, 2), (5, 3), (5, 4), (5, 5), (5, 6), (5, 7), (5, 9), (5, 10), (5, 11), (5, 12), (5, 13), (5, 16), (5, 17), (6, 0), (6, 2), (6, 3), (6, 4), (6, 5), (6, 6), (6, 7), (6, 9), (6, 10), (6, 11), (6, 12), (6, 13), (6, 16), (6, 17), (7, 0), (7, 2), (7, 3), (7, 4), (7, 5), (7, 6), (7, 7), (7, 9), (7, 10), (7, 11), (7, 12), (7, 13), (7, 16), (7, 17), (8, 0), (8, 2), (8, 3), (8, 4), (8, 5), (8, 6), (8, 7), (8, 9), (8, 10), (8, 11), (8, 12), (8, 13), (8, 16), (8, 17), (9, 0), (9, 2), (9, 3), (9, 4), (9, 5), (9, 6), (9, 7), (9, 9), (9, 10), (9, 11), (9, 12), (9, 13), (9, 16), (9, 17), (10, 0), (10, 2), (10, 3), (10, 4), (10, 5), (10, 6), (10, 7), (10, 9), (10, 10), (10, 11), (10, 12), (10, 13), (10, 16), (10, 17), (11, 0), (11, 2), (11, 3), (11, 4), (11, 5), (11, 6), (11, 7), (11, 9), (11, 10), (11, 11), (11, 12), (11, 13), (11, 16), (11, 17), (13, 0), (13, 1), (13, 2), (13, 3), (13, 4), (13, 5), (13, 6), (13, 7), (13, 8), (13, 9), (13, 10), (13, 11), (13, 16), (13, 17), (13, 18), (13, 19), (13, 23), (13, 28), (13, 29), (13, 33), (13, 34), (13, 35), (13, 37), (13, 38)]
def nad (o : Nat) : Nat := nadL.getD o 0
def naa (o k : Nat) : Nat := (naaL.getD o []).getD k 0
def ad (y : LY) (o : Nat) : Nat := y.1 + nad o
def aa (y : LY) (o k : Nat) : Nat := y.1 + naa o k
def isA (o k : Nat) : Bool := Nat.ble 2 (fk (co o) k) && Nat.blt (fk (co o) k) 1000
theorem inv_ad : ∀ o, o < 14 → invL[nad o]? = some (o, 0) := by decide +kernel
theorem inv_aa : ∀ o, o < 14 → ∀ k, k < 38 → isA o k = true → invL[naa o k]? = some (o, k + 1) := by decide +kernel
theorem inv_ap : invL[naa 0 4]? = some (0, 5) := by decide +kernel
theorem isA_p : isA 0 4 = false := by decide +kernel
theorem ad_inj {y : LY} {o o' : Nat} (h : o < 14) (h' : o' < 14) (e : ad y o = ad y o') : o = o' := by
  have e1 : nad o = nad o' := Nat.add_left_cancel e
  have a := inv_ad o h
  rw [e1, inv_ad o' h'] at a
  simpa using (Option.some.inj a).symm
theorem aa_inj {y : LY} {o o' k k' : Nat} (h : o < 14) (h' : o' < 14) (hk : k < 38) (hk' : k' < 38) (ha : isA o k = true) (ha' : isA o' k' = true) (e : aa y o k = aa y o' k') : o = o' ∧ k = k' := by
  have e1 : naa o k = naa o' k' := Nat.add_left_cancel e
  have a := inv_aa o h k hk ha
  rw [e1, inv_aa o' h' k' hk' ha'] at a
  have b := Option.some.inj a
  simp at b
  exact ⟨b.1.symm, b.2.symm⟩
theorem ad_aa {y : LY} {o o' k : Nat} (h : o < 14) (h' : o' < 14) (hk : k < 38) (ha : isA o' k = true) : ad y o ≠ aa y o' k := by
  intro e
  have e1 : nad o = naa o' k := Nat.add_left_cancel e
  have a := inv_ad o h
  rw [e1, inv_aa o' h' k hk ha] at a
  simp at a
theorem ad_ap {y : LY} {o : Nat} (h : o < 14) : ad y o ≠ aa y 0 4 := by
  intro e
  have e1 : nad o = naa 0 4 := Nat.add_left_cancel e
  have a := inv_ad o h
  rw [e1, inv_ap] at a
  simp at a
theorem aa_ap {y : LY} {o k : Nat} (h : o < 14) (hk : k < 38) (ha : isA o k = true) : aa y o k ≠ aa y 0 4 := by
  intro e
  have e1 : naa o k = naa 0 4 := Nat.add_left_cancel e
  have a := inv_aa o h k hk ha
  rw [e1, inv_ap] at a
  have b := Option.some.inj a
  simp at b
  obtain ⟨rfl, rfl⟩ := b
  rw [isA_p] at ha
  cases ha
def fv (y : LY) (σ : ST) (o k : Nat) : Value := if fk (co o) k = 0 then .int (σ.1 o k 0) else if fk (co o) k < 1000 then .ref (aa y o k) else if fk (co o) k < 2000 then .ref (ad y (fk (co o) k - 1000)) else .ref (aa y o k)
def HR (y : LY) (σ : ST) (H : Heap) : Prop :=
  (∀ o, o < 14 → t_OB (ad y o) (y.2.1 (co o)) (NF (co o)) (y.2.2.1 (co o)) H (fv y σ o)) ∧
  (∀ o k, o < 14 → k < 38 → isA o k = true → H[aa y o k]? = some (arrV y.2.2.2.1 (fk (co o) k - 1) (fun i => .int (σ.1 o k i)))) ∧
  H[aa y 0 4]? = some (arrV y.2.2.2.2 8 (fun i => .ref (ad y (σ.2 i))))
def Ay (y : LY) : Nat → Prop := fun q => y.1 ≤ q
def upd3 (V : VT) (o k i : Nat) (x : Int32) : VT := fun o' k' i' => if o' = o ∧ k' = k ∧ i' = i then x else V o' k' i'
def updA (V : VT) (o k : Nat) (f : Nat → Int32) : VT := fun o' k' => if o' = o ∧ k' = k then f else V o' k'
theorem HR.putA {y : LY} {σ : ST} {H H1 : Heap} (h : HR y σ H) {o k : Nat} (ho : o < 14) (hk : k < 38) (hA : isA o k = true) {f : Nat → Int32} (e : H1[aa y o k]? = some (arrV y.2.2.2.1 (fk (co o) k - 1) (fun i => .int (f i)))) (oq : ∀ q : Nat, q ≠ aa y o k → H1[q]? = H[q]?) : HR y (updA σ.1 o k f, σ.2) H1 := by
  obtain ⟨h1, h2, h3⟩ := h
  have fv0 : ∀ o' k', fv y (updA σ.1 o k f, σ.2) o' k' = fv y σ o' k' := by
    intro o' k'
    unfold fv
    by_cases hf : fk (co o') k' = 0
    · have hn : ¬ (o' = o ∧ k' = k) := by
        rintro ⟨rfl, rfl⟩
        simp [isA, hf] at hA
      simp [hf, updA, hn]
    · simp [hf]
  refine ⟨fun o' ho' => ?_, fun o' k' ho' hk' hA' => ?_, ?_⟩
  · exact ((h1 o' ho').kept (oq _ (ad_aa ho' ho hk hA))).to (fun k' _ => (fv0 o' k').symm)
  · by_cases hn : o' = o ∧ k' = k
    · obtain ⟨rfl, rfl⟩ := hn
      rw [e]
      simp [updA]
    · rw [oq _ (fun q => hn (aa_inj ho' ho hk' hk hA' hA q)), h2 o' k' ho' hk' hA']
      simp [updA, hn]
  · rw [oq _ (fun q => aa_ap ho hk hA q.symm), h3]
theorem upd3_updA (V : VT) (o k i : Nat) (x : Int32) : upd3 V o k i x = updA V o k (upd (V o k) i x) := by
  funext o' k' i'
  unfold upd3 updA upd
  by_cases h : o' = o ∧ k' = k
  · obtain ⟨rfl, rfl⟩ := h
    simp
  · have h2 : ¬ (o' = o ∧ k' = k ∧ i' = i) := fun q => h ⟨q.1, q.2.1⟩
    simp [h, h2]
/-! words -/
def isNestW : Cond → Bool
  | .fieldLinkNest .. => true
  | .methodLinkNest .. => true
  | _ => false
def lw_gd : List Cond := lw_tbl.filter goodWord
def lw_ns : List Cond := lw_tbl.filter isNestW
theorem in_gd {w : Cond} (h : w ∈ tables_1) (g : goodWord w = true) : w ∈ lw_gd := List.mem_filter.mpr ⟨List.mem_append_right _ h, g⟩
theorem in_gs {w : Cond} (h : w ∈ k2_sels lw_privs) (g : goodWord w = true) : w ∈ lw_gd := List.mem_filter.mpr ⟨List.mem_append_left _ h, g⟩
theorem in_ns {w : Cond} (h : w ∈ tables_1) (g : isNestW w = true) : w ∈ lw_ns := List.mem_filter.mpr ⟨List.mem_append_right _ h, g⟩
theorem gd_gd {w : Cond} (h : w ∈ lw_gd) : (w.onTables && w.keeps) = true ∨ ∃ ty, w = .arrayClass ty := good_of_word (List.mem_filter.mp h).2
def wsU (ym : MethodName) (cc : ByteArray) (n : Nat) (r : Option FieldType) : List Cond := .code ym cc n r :: lw_gd
/-- the classes at a state, and the nest mates' links -/
def KY (y : LY) (s : State) : Prop := va_K (y.2.1, y.2.2.1) clU [(y.2.2.2.1, .int), (y.2.2.2.2, .object RX0)] s
def NK (s : State) : Prop := ∀ w ∈ lw_ns, va_Nw w s
theorem NK.warm {s U : State} (hW : s.WarmedH U.vm) (h : NK s) : NK U := by
  intro w hw
  have h1 := h w hw
  have h2 := (List.mem_filter.mp hw).2
  cases w <;> first | exact va_Nw.warmF hW h1 | exact va_Nw.warmM hW h1 | (simp [isNestW] at h2)
theorem NK.same {u U : State} (e : u.vm = U.vm) (h : NK u) : NK U := by
  intro w hw
  have h1 := h w hw
  have h2 := (List.mem_filter.mp hw).2
  cases w <;> first | exact va_Nw.same rfl e h1 | (simp [isNestW] at h2)
abbrev ET : Type := Program × Env × Room × State × MethodId × Array Value × List Frame × Method × Code × Nat × Nat
abbrev eP (E : ET) : Program := E.1
abbrev eE (E : ET) : Env := E.2.1
abbrev eR (E : ET) : Room := E.2.2.1
abbrev eS (E : ET) : State := E.2.2.2.1
abbrev eM (E : ET) : MethodId := E.2.2.2.2.1
abbrev eA (E : ET) : Array Value := E.2.2.2.2.2.1
abbrev eB (E : ET) : List Frame := E.2.2.2.2.2.2.1
abbrev eT (E : ET) : Method := E.2.2.2.2.2.2.2.1
abbrev eC (E : ET) : Code := E.2.2.2.2.2.2.2.2.1
abbrev eK (E : ET) : Nat := E.2.2.2.2.2.2.2.2.2.1
abbrev eL (E : ET) : Nat := E.2.2.2.2.2.2.2.2.2.2
abbrev WE (l : Launch) (E : ET) (H : Heap) (locs : List Loc) (Q : State → Prop) (g : JFrame) : Prop := W (eP E) l (eE E) (eR E) (eS E) (eM E) (eA E) (eB E) (eT E) (eC E) H locs (eK E) (eL E) Q g
/-- what a method's rows stand on: the machine, the code, how many locals, its class, the words, the classes, the room -/
def CX (y : LY) (l : Launch) (E : ET) (cc : ByteArray) (nL : Nat) (own : String) (rm : Room) : Prop :=
  (eP E).tables.exec = Jvm.exec ∧ (eC E).code = cc ∧ (eC E).maxLocals = nL ∧ (eS E).vm.findClass own = some (eM E).cls ∧ (∀ w ∈ lw_gd, w.before (eA E) (eS E) = true) ∧ NK (eS E) ∧ KY y (eS E) ∧ eR E = rm ∧ eK E ≤ (eR E).cells ∧ eL E ≤ (eR E).slots
/-- its end -/
def QU (y : LY) (o : Option Value × ST) : Array Value → State → Outcome → State → Prop := fun _ st oc t => oc = .returned o.1 ∧ HR y o.2 t.heap ∧ va_F (Ay y) st t
def QM (y : LY) (E : ET) (o : Option Value × ST) : State → Prop := MQ (eB E) (QU y o) (eA E) (eS E) 0 0 (Ay y)
def ZX (E : ET) (rt : Option FieldType) : Prop := (eT E).sig.returnType = rt ∧ (eT E).locks = false ∧ eK E = 0 ∧ eL E = 0
def WW (y : LY) (l : Launch) (E : ET) (nL : Nat) {α : Type} (Q : α → State → Prop) (pc : Nat) (lv : List (Nat × Value)) (st : List Value) (σ : ST) (M : Option α) : Prop :=
  ∀ a, M = some a → ∀ (H : Heap) (locs : List Loc) (ls : Array Slot), HR y σ H → va_S (Ay y) (eS E).heap H locs → lv_has ls nL lv → WE l E H locs (Q a) (F0 (eM E) pc ls st)
section Combs
variable {α : Type}
def gf (σ : ST) (o k : Nat) (F : Int32 → Option α) : Option α := F (σ.1 o k 0)
def ld (σ : ST) (o k n : Nat) (i : Int32) (F : Int32 → Option α) : Option α := if i < 0 ∨ n ≤ i.toNatClampNeg then none else F (σ.1 o k i.toNatClampNeg)
def sd (σ : ST) (o k n : Nat) (i x : Int32) (F : ST → Option α) : Option α := if i < 0 ∨ n ≤ i.toNatClampNeg then none else F (upd3 σ.1 o k i.toNatClampNeg x, σ.2)
def pf (σ : ST) (o k : Nat) (x : Int32) (F : ST → Option α) : Option α := F (upd3 σ.1 o k 0 x, σ.2)
def rz (x : Int32) (M : Option α) : Option α := if x = 0 ∨ x = 1 then M else none
def nz (x : Int32) (M : Option α) : Option α := if x = 0 then none else M
def nzl (x : Int64) (M : Option α) : Option α := if x = 0 then none else M
def cp (σ : ST) (o k n o' k' n' : Nat) (z : Int32) (F : ST → Option α) : Option α := if z < 0 ∨ n < z.toNatClampNeg ∨ n' < z.toNatClampNeg then none else F (updA σ.1 o' k' (va_cpy (σ.1 o k) (σ.1 o' k') 0 0 z.toNatClampNeg), σ.2)
def pl (σ : ST) (i : Int32) (F : Nat → Option α) : Option α := if i < 0 ∨ 8 ≤ i.toNatClampNeg ∨ ¬ (1 ≤ σ.2 i.toNatClampNeg ∧ σ.2 i.toNatClampNeg ≤ 11) then none else F (σ.2 i.toNatClampNeg)
def ps (σ : ST) (i : Int32) (o : Nat) (F : ST → Option α) : Option α := if i < 0 ∨ 8 ≤ i.toNatClampNeg then none else F (σ.1, fun j => if j = i.toNatClampNeg then o else σ.2 j)
def vl (x : Int32) (F : Int32 → Option α) : Option α := F x
def vL (x : Int64) (F : Int64 → Option α) : Option α := F x
def cI {β : Type} (T : Option (Int32 × β)) (F : Int32 → β → Option α) : Option α := T.bind fun q => F q.1 q.2
def cJ {β : Type} (T : Option (Int64 × β)) (F : Int64 → β → Option α) : Option α := T.bind fun q => F q.1 q.2
def cV {β : Type} (T : Option β) (F : β → Option α) : Option α := T.bind F
end Combs
abbrev xI (q : Int32 × ST) : Option Value × ST := (some (.int q.1), q.2)
abbrev xJ (q : Int64 × ST) : Option Value × ST := (some (.long q.1), q.2)
abbrev xV (σ : ST) : Option Value × ST := (none, σ)
abbrev xp (σ : ST) (x : Int32) : Option Value × ST := (some (.int x), σ)
abbrev xq (σ : ST) (x : Int64) : Option Value × ST := (some (.long x), σ)
section Rows
variable {y : LY} {l : Launch} {E : ET} {nL : Nat} {α : Type} {Q : α → State → Prop} {pc : Nat} {lv : List (Nat × Value)} {st : List Value} {σ : ST} {M : Option α} {cc : ByteArray} {own : String} {rm : Room}
theorem r_lift {pc' : Nat} {st' : List Value} (h : ∀ (H : Heap) (locs : List Loc) (ls : Array Slot) (QQ : State → Prop), lv_has ls nL lv → WE l E H locs QQ (F0 (eM E) pc' ls st') → WE l E H locs QQ (F0 (eM E) pc ls st)) (k : WW y l E nL Q pc' lv st' σ M) : WW y l E nL Q pc lv st σ M :=
  fun a ha H locs ls hH hS hl => h H locs ls (Q a) hl (k a ha H locs ls hH hS hl)
theorem r_none {M : Option α} (h : M = none) : WW y l E nL Q pc lv st σ M := fun a ha => by rw [h] at ha; cases ha
theorem r_of {M' : Option α} (h : M = M') (k : WW y l E nL Q pc lv st σ M') : WW y l E nL Q pc lv st σ M := by rw [h]; exact k
theorem r_ite {P : Prop} {i : Decidable P} {M1 M2 : Option α} (k1 : P → WW y l E nL Q pc lv st σ M1) (k2 : ¬ P → WW y l E nL Q pc lv st σ M2) : WW y l E nL Q pc lv st σ (@ite _ P i M1 M2) := by
  by_cases h : P
  · rw [if_pos h]; exact k1 h
  · rw [if_neg h]; exact k2 h
theorem r_vl {x : Int32} {F : Int32 → Option α} (k : ∀ z, WW y l E nL Q pc lv (.int z :: st) σ (F z)) : WW y l E nL Q pc lv (.int x :: st) σ (vl x F) := k x
theorem r_vL {x : Int64} {F : Int64 → Option α} (k : ∀ z, WW y l E nL Q pc lv (.long z :: st) σ (F z)) : WW y l E nL Q pc lv (.long x :: st) σ (vL x F) := k x
theorem r_iadd {a b : Int32} (X : CX y l E cc nL own rm) (hd : decode cc pc = .ok (.iadd, 1)) (k : WW y l E nL Q (pc + 1) lv (.int (a + b) :: st) σ M) : WW y l E nL Q pc lv (.int b :: .int a :: st) σ M := r_lift (fun _ _ _ _ hl w => lv_iadd X.1 X.2.1 hd w) k
theorem r_isub {a b : Int32} (X : CX y l E cc nL own rm) (hd : decode cc pc = .ok (.isub, 1)) (k : WW y l E nL Q (pc + 1) lv (.int (a - b) :: st) σ M) : WW y l E nL Q pc lv (.int b :: .int a :: st) σ M := r_lift (fun _ _ _ _ hl w => lv_isub X.1 X.2.1 hd w) k
theorem r_imul {a b : Int32} (X : CX y l E cc nL own rm) (hd : decode cc pc = .ok (.imul, 1)) (k : WW y l E nL Q (pc + 1) lv (.int (a * b) :: st) σ M) : WW y l E nL Q pc lv (.int b :: .int a :: st) σ M := r_lift (fun _ _ _ _ hl w => lv_imul X.1 X.2.1 hd w) k
theorem r_iand {a b : Int32} (X : CX y l E cc nL own rm) (hd : decode cc pc = .ok (.iand, 1)) (k : WW y l E nL Q (pc + 1) lv (.int (a &&& b) :: st) σ M) : WW y l E nL Q pc lv (.int b :: .int a :: st) σ M := r_lift (fun _ _ _ _ hl w => lv_iand X.1 X.2.1 hd w) k
theorem r_ior {a b : Int32} (X : CX y l E cc nL own rm) (hd : decode cc pc = .ok (.ior, 1)) (k : WW y l E nL Q (pc + 1) lv (.int (a ||| b) :: st) σ M) : WW y l E nL Q pc lv (.int b :: .int a :: st) σ M := r_lift (fun _ _ _ _ hl w => lv_ior X.1 X.2.1 hd w) k
theorem r_ixor {a b : Int32} (X : CX y l E cc nL own rm) (hd : decode cc pc = .ok (.ixor, 1)) (k : WW y l E nL Q (pc + 1) lv (.int (a ^^^ b) :: st) σ M) : WW y l E nL Q pc lv (.int b :: .int a :: st) σ M := r_lift (fun _ _ _ _ hl w => lv_ixor X.1 X.2.1 hd w) k
theorem r_ineg {a : Int32} (X : CX y l E cc nL own rm) (hd : decode cc pc = .ok (.ineg, 1)) (k : WW y l E nL Q (pc + 1) lv (.int (-a) :: st) σ M) : WW y l E nL Q pc lv (.int a :: st) σ M := r_lift (fun _ _ _ _ hl w => lv_ineg X.1 X.2.1 hd w) k
theorem r_ladd {a b : Int64} (X : CX y l E cc nL own rm) (hd : decode cc pc = .ok (.ladd, 1)) (k : WW y l E nL Q (pc + 1) lv (.long (a + b) :: st) σ M) : WW y l E nL Q pc lv (.long b :: .long a :: st) σ M := r_lift (fun _ _ _ _ hl w => lv_ladd X.1 X.2.1 hd w) k
theorem r_lsub {a b : Int64} (X : CX y l E cc nL own rm) (hd : decode cc pc = .ok (.lsub, 1)) (k : WW y l E nL Q (pc + 1) lv (.long (a - b) :: st) σ M) : WW y l E nL Q pc lv (.long b :: .long a :: st) σ M := r_lift (fun _ _ _ _ hl w => lv_lsub X.1 X.2.1 hd w) k
theorem r_lmul {a b : Int64} (X : CX y l E cc nL own rm) (hd : decode cc pc = .ok (.lmul, 1)) (k : WW y l E nL Q (pc + 1) lv (.long (a * b) :: st) σ M) : WW y l E nL Q pc lv (.long b :: .long a :: st) σ M := r_lift (fun _ _ _ _ hl w => lv_lmul X.1 X.2.1 hd w) k

theorem r_iconst {n : Int} {v : Int32} (X : CX y l E cc nL own rm) (hd : decode cc pc = .ok (.iconst n, 1)) (hv : Int32.ofInt n = v) (k : WW y l E nL Q (pc + 1) lv (.int v :: st) σ M) : WW y l E nL Q pc lv st σ M := r_lift (fun _ _ _ _ hl w => lv_iconst X.1 X.2.1 hd hv w) k
theorem r_bipush {n : Int} {v : Int32} (X : CX y l E cc nL own rm) (hd : decode cc pc = .ok (.bipush n, 2)) (hv : (Int8.ofInt n).toInt32 = v) (k : WW y l E nL Q (pc + 2) lv (.int v :: st) σ M) : WW y l E nL Q pc lv st σ M := r_lift (fun _ _ _ _ hl w => lv_bipush X.1 X.2.1 hd hv w) k
theorem r_sipush {n : Int} {v : Int32} (X : CX y l E cc nL own rm) (hd : decode cc pc = .ok (.sipush n, 3)) (hv : (Int16.ofInt n).toInt32 = v) (k : WW y l E nL Q (pc + 3) lv (.int v :: st) σ M) : WW y l E nL Q pc lv st σ M := r_lift (fun _ _ _ _ hl w => lv_sipush X.1 X.2.1 hd hv w) k
theorem r_lconst {n : Fin 2} {v : Int64} (X : CX y l E cc nL own rm) (hd : decode cc pc = .ok (.lconst n, 1)) (hv : Int64.ofNat (n : Nat) = v) (k : WW y l E nL Q (pc + 1) lv (.long v :: st) σ M) : WW y l E nL Q pc lv st σ M := r_lift (fun _ _ _ _ hl w => lv_lconst X.1 X.2.1 hd hv w) k
theorem r_ldc {index : Nat} {v : Int32} (X : CX y l E cc nL own rm) (hd : decode cc pc = .ok (.ldc index, 2)) (hw : Cond.constant own index v ∈ lw_gd) (k : WW y l E nL Q (pc + 2) lv (.int v :: st) σ M) : WW y l E nL Q pc lv st σ M := r_lift (fun _ _ _ _ hl w => lv_ldc X.1 X.2.1 X.2.2.2.1 (X.2.2.2.2.1 _ hw) hd w) k
theorem r_ldcw {index : Nat} {v : Int32} (X : CX y l E cc nL own rm) (hd : decode cc pc = .ok (.ldc_w index, 3)) (hw : Cond.constant own index v ∈ lw_gd) (k : WW y l E nL Q (pc + 3) lv (.int v :: st) σ M) : WW y l E nL Q pc lv st σ M := r_lift (fun _ _ _ _ hl w => lv_ldcw X.1 X.2.1 X.2.2.2.1 (X.2.2.2.2.1 _ hw) hd w) k
theorem r_ldc2 {index : Nat} {v : Int64} (X : CX y l E cc nL own rm) (hd : decode cc pc = .ok (.ldc2_w index, 3)) (hw : Cond.constantLong own index v ∈ lw_gd) (k : WW y l E nL Q (pc + 3) lv (.long v :: st) σ M) : WW y l E nL Q pc lv st σ M := r_lift (fun _ _ _ _ hl w => lv_ldc2 X.1 X.2.1 X.2.2.2.1 (X.2.2.2.2.1 _ hw) hd w) k
theorem r_iload_n {k0 : Fin 4} {i : Nat} {x : Int32} (X : CX y l E cc nL own rm) (hd : decode cc pc = .ok (.iload_n k0, 1)) (j : Nat) (hi : (k0 : Nat) = i) (hj : lv[j]? = some (i, .int x)) (k : WW y l E nL Q (pc + 1) lv (.int x :: st) σ M) : WW y l E nL Q pc lv st σ M := r_lift (fun _ _ _ _ hl w => lv_iload_n X.1 X.2.1 hd hi (lv_at hl j hj) w) k
theorem r_iload {i : Nat} {x : Int32} (X : CX y l E cc nL own rm) (hd : decode cc pc = .ok (.iload i, 2)) (j : Nat) (hj : lv[j]? = some (i, .int x)) (k : WW y l E nL Q (pc + 2) lv (.int x :: st) σ M) : WW y l E nL Q pc lv st σ M := r_lift (fun _ _ _ _ hl w => lv_iload X.1 X.2.1 hd (lv_at hl j hj) w) k
theorem r_lload_n {k0 : Fin 4} {i : Nat} {x : Int64} (X : CX y l E cc nL own rm) (hd : decode cc pc = .ok (.lload_n k0, 1)) (j : Nat) (hi : (k0 : Nat) = i) (hj : lv[j]? = some (i, .long x)) (k : WW y l E nL Q (pc + 1) lv (.long x :: st) σ M) : WW y l E nL Q pc lv st σ M := r_lift (fun _ _ _ _ hl w => lv_lload_n X.1 X.2.1 hd hi (lv_at hl j hj) w) k
theorem r_lload {i : Nat} {x : Int64} (X : CX y l E cc nL own rm) (hd : decode cc pc = .ok (.lload i, 2)) (j : Nat) (hj : lv[j]? = some (i, .long x)) (k : WW y l E nL Q (pc + 2) lv (.long x :: st) σ M) : WW y l E nL Q pc lv st σ M := r_lift (fun _ _ _ _ hl w => lv_lload X.1 X.2.1 hd (lv_at hl j hj) w) k
theorem r_aload_n {k0 : Fin 4} {i x : Nat} (X : CX y l E cc nL own rm) (hd : decode cc pc = .ok (.aload_n k0, 1)) (j : Nat) (hi : (k0 : Nat) = i) (hj : lv[j]? = some (i, .ref x)) (k : WW y l E nL Q (pc + 1) lv (.ref x :: st) σ M) : WW y l E nL Q pc lv st σ M := r_lift (fun _ _ _ _ hl w => lv_aload_n X.1 X.2.1 hd hi (lv_at hl j hj) w) k
theorem r_aload {i x : Nat} (X : CX y l E cc nL own rm) (hd : decode cc pc = .ok (.aload i, 2)) (j : Nat) (hj : lv[j]? = some (i, .ref x)) (k : WW y l E nL Q (pc + 2) lv (.ref x :: st) σ M) : WW y l E nL Q pc lv st σ M := r_lift (fun _ _ _ _ hl w => lv_aload X.1 X.2.1 hd (lv_at hl j hj) w) k
theorem r_istore_n {k0 : Fin 4} {i : Nat} {x : Int32} {lv' : List (Nat × Value)} (X : CX y l E cc nL own rm) (hd : decode cc pc = .ok (.istore_n k0, 1)) (hi : (k0 : Nat) = i) (hn : i < nL) (hl' : (i, Value.int x) :: lv.filter (fun q => !(q.1 == i) && !(q.1 + 1 == i && q.2.category == 2)) = lv') (k : WW y l E nL Q (pc + 1) lv' st σ M) : WW y l E nL Q pc lv (.int x :: st) σ M :=
  fun a ha H locs ls hH hS hl => lv_istore_n X.1 X.2.1 hd hi hl hn hl' (fun ls' hl2 => k a ha H locs ls' hH hS hl2)
theorem r_istore {i : Nat} {x : Int32} {lv' : List (Nat × Value)} (X : CX y l E cc nL own rm) (hd : decode cc pc = .ok (.istore i, 2)) (hn : i < nL) (hl' : (i, Value.int x) :: lv.filter (fun q => !(q.1 == i) && !(q.1 + 1 == i && q.2.category == 2)) = lv') (k : WW y l E nL Q (pc + 2) lv' st σ M) : WW y l E nL Q pc lv (.int x :: st) σ M :=
  fun a ha H locs ls hH hS hl => lv_istore X.1 X.2.1 hd hl hn hl' (fun ls' hl2 => k a ha H locs ls' hH hS hl2)
theorem r_lstore_n {k0 : Fin 4} {i : Nat} {x : Int64} {lv' : List (Nat × Value)} (X : CX y l E cc nL own rm) (hd : decode cc pc = .ok (.lstore_n k0, 1)) (hi : (k0 : Nat) = i) (hn : i + 1 < nL) (hl' : (i, Value.long x) :: lv.filter (fun q => !(q.1 == i) && (!(q.1 == i + 1) && !(q.1 + 1 == i && q.2.category == 2))) = lv') (k : WW y l E nL Q (pc + 1) lv' st σ M) : WW y l E nL Q pc lv (.long x :: st) σ M :=
  fun a ha H locs ls hH hS hl => lv_lstore_n X.1 X.2.1 hd hi hl hn hl' (fun ls' hl2 => k a ha H locs ls' hH hS hl2)
theorem r_lstore {i : Nat} {x : Int64} {lv' : List (Nat × Value)} (X : CX y l E cc nL own rm) (hd : decode cc pc = .ok (.lstore i, 2)) (hn : i + 1 < nL) (hl' : (i, Value.long x) :: lv.filter (fun q => !(q.1 == i) && (!(q.1 == i + 1) && !(q.1 + 1 == i && q.2.category == 2))) = lv') (k : WW y l E nL Q (pc + 2) lv' st σ M) : WW y l E nL Q pc lv (.long x :: st) σ M :=
  fun a ha H locs ls hH hS hl => lv_lstore X.1 X.2.1 hd hl hn hl' (fun ls' hl2 => k a ha H locs ls' hH hS hl2)
theorem r_astore_n {k0 : Fin 4} {i x : Nat} {lv' : List (Nat × Value)} (X : CX y l E cc nL own rm) (hd : decode cc pc = .ok (.astore_n k0, 1)) (hi : (k0 : Nat) = i) (hn : i < nL) (hl' : (i, Value.ref x) :: lv.filter (fun q => !(q.1 == i) && !(q.1 + 1 == i && q.2.category == 2)) = lv') (k : WW y l E nL Q (pc + 1) lv' st σ M) : WW y l E nL Q pc lv (.ref x :: st) σ M :=
  fun a ha H locs ls hH hS hl => lv_astore_n X.1 X.2.1 hd hi hl hn hl' (fun ls' hl2 => k a ha H locs ls' hH hS hl2)
theorem r_iinc {i : Nat} {n : Int} {x v : Int32} {lv' : List (Nat × Value)} {F : Int32 → Option α} (X : CX y l E cc nL own rm) (hd : decode cc pc = .ok (.iinc i n, 3)) (j : Nat) (hj : lv[j]? = some (i, .int x)) (hv : x + Int32.ofInt n = v) (hn : i < nL) (kk : ∀ z : Int32, WW y l E nL Q (pc + 3) ((i, Value.int z) :: lv.filter (fun q => !(q.1 == i) && !(q.1 + 1 == i && q.2.category == 2))) st σ (F z)) : WW y l E nL Q pc lv st σ (vl v F) :=
  fun a ha H locs ls hH hS hl => lv_iinc X.1 X.2.1 hd hl hj hv hn rfl (fun ls' hl2 => kk v a ha H locs ls' hH hS hl2)
theorem r_sub (ks : List Nat) {lv' : List (Nat × Value)} (hl' : lv_pick lv ks = lv') (k : WW y l E nL Q pc lv' st σ M) : WW y l E nL Q pc lv st σ M :=
  fun a ha H locs ls hH hS hl => k a ha H locs ls hH hS (lv_sub hl ks hl')
theorem r_goto {off : Int} {tgt : Nat} (X : CX y l E cc nL own rm) (hd : decode cc pc = .ok (.goto off, 3)) (ht : (pc : Int) + off = (tgt : Int)) (k : WW y l E nL Q tgt lv st σ M) : WW y l E nL Q pc lv st σ M := r_lift (fun _ _ _ _ hl w => lv_goto X.1 X.2.1 hd ht w) k
theorem r_dup {v : Value} (X : CX y l E cc nL own rm) (hd : decode cc pc = .ok (.dup, 1)) (hv : v.category = 1) (k : WW y l E nL Q (pc + 1) lv (v :: v :: st) σ M) : WW y l E nL Q pc lv (v :: st) σ M := r_lift (fun _ _ _ _ hl w => lv_dup X.1 X.2.1 hd hv w) k
theorem r_dup2 {v w : Value} (X : CX y l E cc nL own rm) (hd : decode cc pc = .ok (.dup2, 1)) (hv : v.category = 1) (hw : w.category = 1) (k : WW y l E nL Q (pc + 1) lv (v :: w :: v :: w :: st) σ M) : WW y l E nL Q pc lv (v :: w :: st) σ M := r_lift (fun _ _ _ _ hl z => lv_dup2_11 X.1 X.2.1 hd hv hw z) k
theorem r_pop {v : Value} (X : CX y l E cc nL own rm) (hd : decode cc pc = .ok (.pop, 1)) (hv : v.category = 1) (k : WW y l E nL Q (pc + 1) lv st σ M) : WW y l E nL Q pc lv (v :: st) σ M := r_lift (fun _ _ _ _ hl w => lv_pop X.1 X.2.1 hd hv w) k
theorem r_ishl {a b v : Int32} (X : CX y l E cc nL own rm) (hd : decode cc pc = .ok (.ishl, 1)) (hv : a <<< (b &&& 31) = v) (k : WW y l E nL Q (pc + 1) lv (.int v :: st) σ M) : WW y l E nL Q pc lv (.int b :: .int a :: st) σ M := r_lift (fun _ _ _ _ hl w => lv_ishl X.1 X.2.1 hd (by rw [hv]; exact w)) k
theorem r_ishr {a b v : Int32} (X : CX y l E cc nL own rm) (hd : decode cc pc = .ok (.ishr, 1)) (hv : a >>> (b &&& 31) = v) (k : WW y l E nL Q (pc + 1) lv (.int v :: st) σ M) : WW y l E nL Q pc lv (.int b :: .int a :: st) σ M := r_lift (fun _ _ _ _ hl w => lv_ishr X.1 X.2.1 hd (by rw [hv]; exact w)) k
theorem r_iushr {a b v : Int32} (X : CX y l E cc nL own rm) (hd : decode cc pc = .ok (.iushr, 1)) (hv : (a.toUInt32 >>> (b.toUInt32 &&& Int32.toUInt32 31)).toInt32 = v) (k : WW y l E nL Q (pc + 1) lv (.int v :: st) σ M) : WW y l E nL Q pc lv (.int b :: .int a :: st) σ M := r_lift (fun _ _ _ _ hl w => lv_iushr X.1 X.2.1 hd hv w) k
theorem r_i2l {a : Int32} (X : CX y l E cc nL own rm) (hd : decode cc pc = .ok (.i2l, 1)) (k : WW y l E nL Q (pc + 1) lv (.long a.toInt64 :: st) σ M) : WW y l E nL Q pc lv (.int a :: st) σ M := r_lift (fun _ _ _ _ hl w => lv_i2l X.1 X.2.1 hd rfl w) k
theorem r_lcmp {a b : Int64} (X : CX y l E cc nL own rm) (hd : decode cc pc = .ok (.lcmp, 1)) (k : WW y l E nL Q (pc + 1) lv (.int (lg_cmp a b) :: st) σ M) : WW y l E nL Q pc lv (.long b :: .long a :: st) σ M := r_lift (fun _ _ _ _ hl w => W.lcmp X.1 X.2.1 hd w) k
theorem r_idiv {a b : Int32} (X : CX y l E cc nL own rm) (hd : decode cc pc = .ok (.idiv, 1)) (hne : ¬ b = 0) (k : WW y l E nL Q (pc + 1) lv (.int (a / b) :: st) σ M) : WW y l E nL Q pc lv (.int b :: .int a :: st) σ M := r_lift (fun _ _ _ _ hl w => lv_idiv X.1 X.2.1 hd hne w) k
theorem r_irem {a b : Int32} (X : CX y l E cc nL own rm) (hd : decode cc pc = .ok (.irem, 1)) (hne : ¬ b = 0) (k : WW y l E nL Q (pc + 1) lv (.int (a - a / b * b) :: st) σ M) : WW y l E nL Q pc lv (.int b :: .int a :: st) σ M := r_lift (fun _ _ _ _ hl w => lv_irem X.1 X.2.1 hd hne w) k
theorem r_idivz {a b : Int32} (X : CX y l E cc nL own rm) (hd : decode cc pc = .ok (.idiv, 1)) (k : WW y l E nL Q (pc + 1) lv (.int (a / b) :: st) σ M) : WW y l E nL Q pc lv (.int b :: .int a :: st) σ (nz b M) := by
  by_cases h : b = 0
  · exact r_none (by simp [nz, h])
  · exact r_of (by simp [nz, h]) (r_idiv X hd h k)
theorem r_iremz {a b : Int32} (X : CX y l E cc nL own rm) (hd : decode cc pc = .ok (.irem, 1)) (k : WW y l E nL Q (pc + 1) lv (.int (a - a / b * b) :: st) σ M) : WW y l E nL Q pc lv (.int b :: .int a :: st) σ (nz b M) := by
  by_cases h : b = 0
  · exact r_none (by simp [nz, h])
  · exact r_of (by simp [nz, h]) (r_irem X hd h k)
theorem r_ldivz {a b : Int64} (X : CX y l E cc nL own rm) (hd : decode cc pc = .ok (.ldiv, 1)) (k : WW y l E nL Q (pc + 1) lv (.long (a / b) :: st) σ M) : WW y l E nL Q pc lv (.long b :: .long a :: st) σ (nzl b M) := by
  by_cases h : b = 0
  · exact r_none (by simp [nzl, h])
  · exact r_of (by simp [nzl, h]) (r_lift (fun _ _ _ _ hl w => lv_ldiv X.1 X.2.1 hd h w) k)
theorem r_lremz {a b : Int64} (X : CX y l E cc nL own rm) (hd : decode cc pc = .ok (.lrem, 1)) (k : WW y l E nL Q (pc + 1) lv (.long (a - a / b * b) :: st) σ M) : WW y l E nL Q pc lv (.long b :: .long a :: st) σ (nzl b M) := by
  by_cases h : b = 0
  · exact r_none (by simp [nzl, h])
  · exact r_of (by simp [nzl, h]) (r_lift (fun _ _ _ _ hl w => lv_lrem X.1 X.2.1 hd h w) k)
theorem r_if_eq {a : Int32} {off : Int} {tgt : Nat} {M1 M2 : Option α} (X : CX y l E cc nL own rm) (hd : decode cc pc = .ok (.ifCond .eq off, 3)) (ht : (pc : Int) + off = (tgt : Int)) (kt : WW y l E nL Q tgt lv st σ M1) (kf : WW y l E nL Q (pc + 3) lv st σ M2) : WW y l E nL Q pc lv (.int a :: st) σ (if a = 0 then M1 else M2) := by
  intro z hz H locs ls hH hS hl
  refine lv_if_eq X.1 X.2.1 hd ht (fun h => ?_) (fun h => ?_)
  · exact kt z (by rw [if_pos h] at hz; exact hz) H locs ls hH hS hl
  · exact kf z (by rw [if_neg h] at hz; exact hz) H locs ls hH hS hl
theorem r_if_lt {a : Int32} {off : Int} {tgt : Nat} {M1 M2 : Option α} (X : CX y l E cc nL own rm) (hd : decode cc pc = .ok (.ifCond .lt off, 3)) (ht : (pc : Int) + off = (tgt : Int)) (kt : WW y l E nL Q tgt lv st σ M1) (kf : WW y l E nL Q (pc + 3) lv st σ M2) : WW y l E nL Q pc lv (.int a :: st) σ (if a < 0 then M1 else M2) := by
  intro z hz H locs ls hH hS hl
  refine lv_if_lt X.1 X.2.1 hd ht (fun h => ?_) (fun h => ?_)
  · exact kt z (by rw [if_pos h] at hz; exact hz) H locs ls hH hS hl
  · exact kf z (by rw [if_neg h] at hz; exact hz) H locs ls hH hS hl
theorem r_if_ge {a : Int32} {off : Int} {tgt : Nat} {M1 M2 : Option α} (X : CX y l E cc nL own rm) (hd : decode cc pc = .ok (.ifCond .ge off, 3)) (ht : (pc : Int) + off = (tgt : Int)) (kt : WW y l E nL Q tgt lv st σ M1) (kf : WW y l E nL Q (pc + 3) lv st σ M2) : WW y l E nL Q pc lv (.int a :: st) σ (if 0 ≤ a then M1 else M2) := by
  intro z hz H locs ls hH hS hl
  refine lv_if_ge X.1 X.2.1 hd ht (fun h => ?_) (fun h => ?_)
  · exact kt z (by rw [if_pos h] at hz; exact hz) H locs ls hH hS hl
  · exact kf z (by rw [if_neg h] at hz; exact hz) H locs ls hH hS hl
theorem r_if_gt {a : Int32} {off : Int} {tgt : Nat} {M1 M2 : Option α} (X : CX y l E cc nL own rm) (hd : decode cc pc = .ok (.ifCond .gt off, 3)) (ht : (pc : Int) + off = (tgt : Int)) (kt : WW y l E nL Q tgt lv st σ M1) (kf : WW y l E nL Q (pc + 3) lv st σ M2) : WW y l E nL Q pc lv (.int a :: st) σ (if 0 < a then M1 else M2) := by
  intro z hz H locs ls hH hS hl
  refine lv_if_gt X.1 X.2.1 hd ht (fun h => ?_) (fun h => ?_)
  · exact kt z (by rw [if_pos h] at hz; exact hz) H locs ls hH hS hl
  · exact kf z (by rw [if_neg h] at hz; exact hz) H locs ls hH hS hl
theorem r_if_le {a : Int32} {off : Int} {tgt : Nat} {M1 M2 : Option α} (X : CX y l E cc nL own rm) (hd : decode cc pc = .ok (.ifCond .le off, 3)) (ht : (pc : Int) + off = (tgt : Int)) (kt : WW y l E nL Q tgt lv st σ M1) (kf : WW y l E nL Q (pc + 3) lv st σ M2) : WW y l E nL Q pc lv (.int a :: st) σ (if a ≤ 0 then M1 else M2) := by
  intro z hz H locs ls hH hS hl
  refine lv_if_le X.1 X.2.1 hd ht (fun h => ?_) (fun h => ?_)
  · exact kt z (by rw [if_pos h] at hz; exact hz) H locs ls hH hS hl
  · exact kf z (by rw [if_neg h] at hz; exact hz) H locs ls hH hS hl
theorem r_icmp_eq {a b : Int32} {off : Int} {tgt : Nat} {M1 M2 : Option α} (X : CX y l E cc nL own rm) (hd : decode cc pc = .ok (.if_icmp .eq off, 3)) (ht : (pc : Int) + off = (tgt : Int)) (kt : WW y l E nL Q tgt lv st σ M1) (kf : WW y l E nL Q (pc + 3) lv st σ M2) : WW y l E nL Q pc lv (.int b :: .int a :: st) σ (if a = b then M1 else M2) := by
  intro z hz H locs ls hH hS hl
  refine lv_icmp_eq X.1 X.2.1 hd ht (fun h => ?_) (fun h => ?_)
  · exact kt z (by rw [if_pos h] at hz; exact hz) H locs ls hH hS hl
  · exact kf z (by rw [if_neg h] at hz; exact hz) H locs ls hH hS hl
theorem r_icmp_lt {a b : Int32} {off : Int} {tgt : Nat} {M1 M2 : Option α} (X : CX y l E cc nL own rm) (hd : decode cc pc = .ok (.if_icmp .lt off, 3)) (ht : (pc : Int) + off = (tgt : Int)) (kt : WW y l E nL Q tgt lv st σ M1) (kf : WW y l E nL Q (pc + 3) lv st σ M2) : WW y l E nL Q pc lv (.int b :: .int a :: st) σ (if a < b then M1 else M2) := by
  intro z hz H locs ls hH hS hl
  refine lv_icmp_lt X.1 X.2.1 hd ht (fun h => ?_) (fun h => ?_)
  · exact kt z (by rw [if_pos h] at hz; exact hz) H locs ls hH hS hl
  · exact kf z (by rw [if_neg h] at hz; exact hz) H locs ls hH hS hl
theorem r_icmp_ge {a b : Int32} {off : Int} {tgt : Nat} {M1 M2 : Option α} (X : CX y l E cc nL own rm) (hd : decode cc pc = .ok (.if_icmp .ge off, 3)) (ht : (pc : Int) + off = (tgt : Int)) (kt : WW y l E nL Q tgt lv st σ M1) (kf : WW y l E nL Q (pc + 3) lv st σ M2) : WW y l E nL Q pc lv (.int b :: .int a :: st) σ (if b ≤ a then M1 else M2) := by
  intro z hz H locs ls hH hS hl
  refine lv_icmp_ge X.1 X.2.1 hd ht (fun h => ?_) (fun h => ?_)
  · exact kt z (by rw [if_pos h] at hz; exact hz) H locs ls hH hS hl
  · exact kf z (by rw [if_neg h] at hz; exact hz) H locs ls hH hS hl
theorem r_icmp_gt {a b : Int32} {off : Int} {tgt : Nat} {M1 M2 : Option α} (X : CX y l E cc nL own rm) (hd : decode cc pc = .ok (.if_icmp .gt off, 3)) (ht : (pc : Int) + off = (tgt : Int)) (kt : WW y l E nL Q tgt lv st σ M1) (kf : WW y l E nL Q (pc + 3) lv st σ M2) : WW y l E nL Q pc lv (.int b :: .int a :: st) σ (if b < a then M1 else M2) := by
  intro z hz H locs ls hH hS hl
  refine lv_icmp_gt X.1 X.2.1 hd ht (fun h => ?_) (fun h => ?_)
  · exact kt z (by rw [if_pos h] at hz; exact hz) H locs ls hH hS hl
  · exact kf z (by rw [if_neg h] at hz; exact hz) H locs ls hH hS hl
theorem r_icmp_le {a b : Int32} {off : Int} {tgt : Nat} {M1 M2 : Option α} (X : CX y l E cc nL own rm) (hd : decode cc pc = .ok (.if_icmp .le off, 3)) (ht : (pc : Int) + off = (tgt : Int)) (kt : WW y l E nL Q tgt lv st σ M1) (kf : WW y l E nL Q (pc + 3) lv st σ M2) : WW y l E nL Q pc lv (.int b :: .int a :: st) σ (if a ≤ b then M1 else M2) := by
  intro z hz H locs ls hH hS hl
  refine lv_icmp_le X.1 X.2.1 hd ht (fun h => ?_) (fun h => ?_)
  · exact kt z (by rw [if_pos h] at hz; exact hz) H locs ls hH hS hl
  · exact kf z (by rw [if_neg h] at hz; exact hz) H locs ls hH hS hl
theorem r_if_ne {a : Int32} {off : Int} {tgt : Nat} {M1 M2 : Option α} (X : CX y l E cc nL own rm) (hd : decode cc pc = .ok (.ifCond .ne off, 3)) (ht : (pc : Int) + off = (tgt : Int)) (kt : WW y l E nL Q tgt lv st σ M1) (kf : WW y l E nL Q (pc + 3) lv st σ M2) : WW y l E nL Q pc lv (.int a :: st) σ (if a = 0 then M2 else M1) := by
  intro z hz H locs ls hH hS hl
  refine lv_if_ne X.1 X.2.1 hd ht (fun h => ?_) (fun h => ?_)
  · exact kt z (by rw [if_neg h] at hz; exact hz) H locs ls hH hS hl
  · exact kf z (by rw [if_pos h] at hz; exact hz) H locs ls hH hS hl
theorem r_icmp_ne {a b : Int32} {off : Int} {tgt : Nat} {M1 M2 : Option α} (X : CX y l E cc nL own rm) (hd : decode cc pc = .ok (.if_icmp .ne off, 3)) (ht : (pc : Int) + off = (tgt : Int)) (kt : WW y l E nL Q tgt lv st σ M1) (kf : WW y l E nL Q (pc + 3) lv st σ M2) : WW y l E nL Q pc lv (.int b :: .int a :: st) σ (if a = b then M2 else M1) := by
  intro z hz H locs ls hH hS hl
  refine lv_icmp_ne X.1 X.2.1 hd ht (fun h => ?_) (fun h => ?_)
  · exact kt z (by rw [if_neg h] at hz; exact hz) H locs ls hH hS hl
  · exact kf z (by rw [if_pos h] at hz; exact hz) H locs ls hH hS hl

theorem r_lookup {dflt : Int} {ps0 : Array (Int × Int)} {len : Nat} {x : Int32} {off : Int} {tgt : Nat} (X : CX y l E cc nL own rm) (hd : decode cc pc = .ok (.lookupswitch dflt ps0, len)) (hp : (ps0.toList.zip (ps0.toList.drop 1)).all (fun (a, next) => a.1 < next.1) = true) (ho : Op.lookupswitch.offset ps0.toList dflt x.toInt = off) (ht : (pc : Int) + off = (tgt : Int)) (k : WW y l E nL Q tgt lv st σ M) : WW y l E nL Q pc lv (.int x :: st) σ M := r_lift (fun _ _ _ _ hl w => lv_lookup X.1 X.2.1 hd hp ho ht w) k
theorem r_tabOut {dflt lo hi : Int} {offs : Array Int} {len : Nat} {x : Int32} {tgt : Nat} (X : CX y l E cc nL own rm) (hd : decode cc pc = .ok (.tableswitch dflt lo hi offs, len)) (h : x.toInt < lo ∨ hi < x.toInt) (ht : (pc : Int) + dflt = (tgt : Int)) (k : WW y l E nL Q tgt lv st σ M) : WW y l E nL Q pc lv (.int x :: st) σ M := r_lift (fun _ _ _ _ hl w => lv_tableOut X.1 X.2.1 hd h ht w) k
theorem r_tabIn {dflt lo hi : Int} {offs : Array Int} {len : Nat} {x v : Int32} {off : Int} {tgt : Nat} (X : CX y l E cc nL own rm) (hd : decode cc pc = .ok (.tableswitch dflt lo hi offs, len)) (e : x = v) (h1 : ¬ v.toInt < lo) (h2 : ¬ hi < v.toInt) (ho : offs[(v.toInt - lo).toNat]? = some off) (ht : (pc : Int) + off = (tgt : Int)) (k : WW y l E nL Q tgt lv st σ M) : WW y l E nL Q pc lv (.int x :: st) σ M := by
  subst e
  exact r_lift (fun _ _ _ _ hl w => lv_tableIn X.1 X.2.1 hd h1 h2 ho ht w) k
end Rows
end
section
/-! rows that read and write the heap; calls; returns; a method's contract -/
theorem inG0 : ∀ w ∈ u_ws RX0 TX0 19, w ∈ lw_gd := by decide +kernel
theorem inG1 : ∀ w ∈ u_ws RX1 TX1 5, w ∈ lw_gd := by decide +kernel
theorem inG2 : ∀ w ∈ u_ws RX2 TX2 13, w ∈ lw_gd := by decide +kernel
theorem inG3 : ∀ w ∈ u_ws RX3 TX3 38, w ∈ lw_gd := by decide +kernel
theorem cl_lt {ci : Nat} {r : vw_C} (h : clU[ci]? = some r) : ci < 4 := (List.getElem?_eq_some_iff.mp h).1
theorem cl_ws {ci : Nat} {C : String} {T : u_T} {N : Nat} (h : clU[ci]? = some (C, T, N)) : (∀ w ∈ u_ws C T N, w ∈ lw_gd) ∧ NF ci = N := by
  have hl := cl_lt h
  match ci, hl, h with
  | 0, _, h => cases h; exact ⟨inG0, rfl⟩
  | 1, _, h => cases h; exact ⟨inG1, rfl⟩
  | 2, _, h => cases h; exact ⟨inG2, rfl⟩
  | 3, _, h => cases h; exact ⟨inG3, rfl⟩
theorem cl_ap {args : Array Value} {s : State} {y : LY} (hts : ∀ w ∈ lw_gd, w.before args s = true) (hK : KY y s) {ci : Nat} (hl : ci < 4) : ∀ a b, a < NF ci → b < NF ci → a ≠ b → y.2.2.1 ci a ≠ y.2.2.1 ci b := by
  match ci, hl with
  | 0, _ => exact va_apart (own := "") hts inG0 tyX0 tyX0_ok nmX0 hK rfl
  | 1, _ => exact va_apart (own := "") hts inG1 tyX1 tyX1_ok nmX1 hK rfl
  | 2, _ => exact va_apart (own := "") hts inG2 tyX2 tyX2_ok nmX2 hK rfl
  | 3, _ => exact va_apart (own := "") hts inG3 tyX3 tyX3_ok nmX3 hK rfl
/-- a field's link at an entry of a class's pool -/
def FL (own : String) (idx ci k : Nat) : Prop := ∃ (C : String) (T : u_T) (N : Nat), clU[ci]? = some (C, T, N) ∧ k < N ∧ (Cond.fieldLink own idx (T k).1 (T k).2.1 (T k).2.2.1 ∈ lw_gd ∨ ∃ host, Cond.fieldLinkNest own idx (T k).1 (T k).2.1 (T k).2.2.1 host ∈ lw_ns)
/-- and it may be written, and holds a whole number or a truth value -/
def FW (ci k : Nat) (ty : FieldType) : Prop := ∃ (C : String) (T : u_T) (N : Nat), clU[ci]? = some (C, T, N) ∧ (T k).2.2.2 = false ∧ parseFieldDescriptor (T k).2.2.1 = some ty
theorem HR.putF {y : LY} {σ : ST} {H H1 : Heap} (h : HR y σ H) {o k : Nat} (ho : o < 14) (hf : fk (co o) k = 0) {x : Int32} (e : t_OB (ad y o) (y.2.1 (co o)) (NF (co o)) (y.2.2.1 (co o)) H1 (updV (fv y σ o) k (.int x))) (oq : ∀ q : Nat, q ≠ ad y o → H1[q]? = H[q]?) : HR y (upd3 σ.1 o k 0 x, σ.2) H1 := by
  obtain ⟨h1, h2, h3⟩ := h
  refine ⟨fun o' ho' => ?_, fun o' k' ho' hk' hA' => ?_, ?_⟩
  · by_cases hn : o' = o
    · subst hn
      refine e.to (fun k' _ => ?_)
      unfold updV fv
      by_cases hk : k' = k
      · subst hk
        simp [hf, upd3]
      · simp [hk, upd3]
    · refine ((h1 o' ho').kept (oq _ (fun q => hn (ad_inj ho' ho q)))).to (fun k' _ => ?_)
      unfold fv
      simp [upd3, hn]
  · rw [oq _ (fun q => ad_aa ho ho' hk' hA' q.symm), h2 o' k' ho' hk' hA']
    have hn : ¬ (o' = o ∧ k' = k) := by
      rintro ⟨rfl, rfl⟩
      simp [isA, hf] at hA'
    congr 1
    congr 1
    funext i
    have h4 : ¬ (o' = o ∧ k' = k ∧ i = 0) := fun q => hn ⟨q.1, q.2.1⟩
    simp [upd3, h4]
  · rw [oq _ (fun q => ad_ap ho q.symm), h3]
theorem HR.putP {y : LY} {σ : ST} {H H1 : Heap} (h : HR y σ H) {f : Nat → Nat} (e : H1[aa y 0 4]? = some (arrV y.2.2.2.2 8 (fun i => .ref (ad y (f i))))) (oq : ∀ q : Nat, q ≠ aa y 0 4 → H1[q]? = H[q]?) : HR y (σ.1, f) H1 := by
  obtain ⟨h1, h2, h3⟩ := h
  refine ⟨fun o' ho' => ?_, fun o' k' ho' hk' hA' => ?_, e⟩
  · exact (h1 o' ho').kept (oq _ (ad_ap ho'))
  · rw [oq _ (aa_ap ho' hk' hA'), h2 o' k' ho' hk' hA']
theorem le_ad {y : LY} {o : Nat} : Ay y (ad y o) := Nat.le_add_right _ _
theorem le_aa {y : LY} {o k : Nat} : Ay y (aa y o k) := Nat.le_add_right _ _
abbrev AR (o k n : Nat) : Prop := o < 14 ∧ k < 38 ∧ isA o k = true ∧ fk (co o) k - 1 = n
theorem co_st {o : Nat} (h : 1 ≤ o ∧ o ≤ 11) : co o = 0 := by
  unfold co
  rw [if_neg (by omega), if_pos h.2]
theorem ar_st {o k n : Nat} (h : 1 ≤ o ∧ o ≤ 11) (a : AR 1 k n) : AR o k n := by
  have e : co o = co 1 := co_st h
  obtain ⟨-, a2, a3, a4⟩ := a
  refine ⟨by omega, a2, ?_, by rw [e]; exact a4⟩
  unfold isA at a3 ⊢
  rw [e]; exact a3
theorem oc_st {o : Nat} (h : 1 ≤ o ∧ o ≤ 11) : o < 14 ∧ co o = 0 := ⟨by omega, co_st h⟩
section HeapRows
variable {y : LY} {l : Launch} {E : ET} {nL : Nat} {α : Type} {Q : α → State → Prop} {pc : Nat} {lv : List (Nat × Value)} {st : List Value} {σ : ST} {M : Option α} {cc : ByteArray} {own : String} {rm : Room}
theorem r_getU {idx ci k o : Nat} {v : Value} (X : CX y l E cc nL own rm) (hd : decode cc pc = .ok (.getfield idx, 3)) (hF : FL own idx ci k) (hO : o < 14 ∧ co o = ci) (hv : fv y σ o k = v) (kk : WW y l E nL Q (pc + 3) lv (v :: st) σ M) : WW y l E nL Q pc lv (.ref (ad y o) :: st) σ M := by
  intro a ha H locs ls hH hS hl
  obtain ⟨hx, hb, -, hown, hts, hNK, hK, -⟩ := X
  obtain ⟨C, T, N, hc, hk, hlk⟩ := hF
  obtain ⟨ho, rfl⟩ := hO
  obtain ⟨hin, hN⟩ := cl_ws hc
  obtain ⟨cell, q1, q2, q3, q4⟩ := hH.1 o ho
  obtain ⟨hSl, hfc, kC, hkC, hkind⟩ := hK.1 (co o) _ hc
  obtain ⟨cf, kf, fi, f, hi, hsl⟩ := hSl k hk
  have hst := (u_facts hfc hkC (u_lays hts hin hk) hi).1
  have hslot : cell.slots[f.slot]? = some v := by
    rw [hsl]
    exact (q4 k (by rw [hN]; exact hk)).trans (by rw [hv])
  rcases hlk with h | ⟨host, h⟩
  · exact W.getf hx hb hown (hts _ h) hi hst q1 (by rw [q3]; exact fun h => by cases h) hslot rfl rfl hd (kk a ha H locs ls hH hS hl)
  · exact va_Wgetf hx hb hown (va_Nw.use rfl (hNK _ h)) hi hst q1 (by rw [q3]; exact fun h => by cases h) hslot rfl rfl hd (kk a ha H locs ls hH hS hl)
theorem r_geti {idx ci k o : Nat} {F : Int32 → Option α} (X : CX y l E cc nL own rm) (hd : decode cc pc = .ok (.getfield idx, 3)) (hF : FL own idx ci k) (hO : o < 14 ∧ co o = ci) (hf : fk ci k = 0) (kk : ∀ x, WW y l E nL Q (pc + 3) lv (.int x :: st) σ (F x)) : WW y l E nL Q pc lv (.ref (ad y o) :: st) σ (gf σ o k F) :=
  r_getU (v := .int (σ.1 o k 0)) X hd hF hO (by rw [fv, hO.2, if_pos hf]) (kk _)
theorem r_geta {idx ci k o : Nat} (X : CX y l E cc nL own rm) (hd : decode cc pc = .ok (.getfield idx, 3)) (hF : FL own idx ci k) (hO : o < 14 ∧ co o = ci) (hf : ¬ fk ci k = 0 ∧ fk ci k < 1000) (kk : WW y l E nL Q (pc + 3) lv (.ref (aa y o k) :: st) σ M) : WW y l E nL Q pc lv (.ref (ad y o) :: st) σ M :=
  r_getU (v := .ref (aa y o k)) X hd hF hO (by rw [fv, hO.2, if_neg hf.1, if_pos hf.2]) kk
theorem r_geto {idx k : Nat} (t : Nat) (X : CX y l E cc nL own rm) (hd : decode cc pc = .ok (.getfield idx, 3)) (hF : FL own idx 2 k) (hf : fk 2 k = 1000 + t) (ht : t < 1000) (kk : WW y l E nL Q (pc + 3) lv (.ref (ad y t) :: st) σ M) : WW y l E nL Q pc lv (.ref (ad y 0) :: st) σ M :=
  r_getU (v := .ref (ad y t)) X hd hF ⟨by decide, rfl⟩ (by
    rw [fv, show co 0 = 2 from rfl, hf, if_neg (by omega), if_neg (by omega), if_pos (by omega), Nat.add_sub_cancel_left]) kk
theorem r_getp {idx : Nat} (X : CX y l E cc nL own rm) (hd : decode cc pc = .ok (.getfield idx, 3)) (hF : FL own idx 2 4) (kk : WW y l E nL Q (pc + 3) lv (.ref (aa y 0 4) :: st) σ M) : WW y l E nL Q pc lv (.ref (ad y 0) :: st) σ M :=
  r_getU (v := .ref (aa y 0 4)) X hd hF ⟨by decide, rfl⟩ rfl kk
theorem r_putU {idx ci k o : Nat} {x : Int32} {ty : FieldType} {F : ST → Option α} (X : CX y l E cc nL own rm) (hd : decode cc pc = .ok (.putfield idx, 3)) (hF : FL own idx ci k) (hw : FW ci k ty) (hO : o < 14 ∧ co o = ci) (hf : fk ci k = 0) (hn : narrow ty (.int x) = .int x) (hfit : fits ty (.int x) = true) (kk : ∀ σ', σ' = (upd3 σ.1 o k 0 x, σ.2) → WW y l E nL Q (pc + 3) lv st σ' (F σ')) : WW y l E nL Q pc lv (.int x :: .ref (ad y o) :: st) σ (pf σ o k x F) := by
  intro a ha H locs ls hH hS hl
  obtain ⟨hx, hb, -, hown, hts, hNK, hK, -⟩ := X
  obtain ⟨C, T, N, hc, hk, hlk⟩ := hF
  obtain ⟨C', T', N', hc', hfin, hty⟩ := hw
  rw [hc] at hc'
  cases hc'
  obtain ⟨ho, rfl⟩ := hO
  obtain ⟨hin, hN⟩ := cl_ws hc
  obtain ⟨cell, q1, q2, q3, q4⟩ := hH.1 o ho
  obtain ⟨hSl, hfc, kC, hkC, hkind⟩ := hK.1 (co o) _ hc
  obtain ⟨cf, kf, fi, f, hi, hsl⟩ := hSl k hk
  have hst := (u_facts hfc hkC (u_lays hts hin hk) hi).1
  have hlay := hts _ (hin _ (u_in_lay hk))
  unfold u_lay at hlay
  rw [if_neg (by rw [hfin]; decide)] at hlay
  have h6 := u_store hfc hkC hkind hlay hi hty hn hfit
  have hkN : k < NF (co o) := by rw [hN]; exact hk
  have hap := cl_ap hts hK (cl_lt hc)
  have fin : ∀ H' : Heap, H'[ad y o]? = some (cell.setSlot f.slot (.int x)) → H'.size = H.size → (∀ q, q ≠ ad y o → H'[q]? = H[q]?) → WE l E H' (locs ++ [⟨ad y o, f.slot⟩]) (Q a) (F0 (eM E) (pc + 3) ls st) := by
    intro H' e1 e2 e3
    refine kk _ rfl a ha H' _ ls (hH.putF ho hf ?_ e3) (hS.put e2 e3 le_ad) hl
    rw [hsl] at e1
    exact ⟨_, e1, q2, q3, t_set q4 hap hkN (.int x)⟩
  rcases hlk with h | ⟨host, h⟩
  · exact W.putK hx hb (f := f) ⟨hown, hts _ h, ⟨_, _, _, hi⟩, hst⟩ (by rw [q2]; exact h6) q1 q3 (by rw [hsl]; exact k2_hasslot (q4 k hkN)) rfl rfl hd fin
  · exact va_WputK hx hb (f := f) hown (va_Nw.use rfl (hNK _ h)) hi hst (by rw [q2]; exact h6) q1 q3 (by rw [hsl]; exact k2_hasslot (q4 k hkN)) rfl rfl hd fin
theorem r_puti {idx ci k o : Nat} {x : Int32} {F : ST → Option α} (X : CX y l E cc nL own rm) (hd : decode cc pc = .ok (.putfield idx, 3)) (hF : FL own idx ci k) (hw : FW ci k .int) (hO : o < 14 ∧ co o = ci) (hf : fk ci k = 0) (kk : ∀ σ', WW y l E nL Q (pc + 3) lv st σ' (F σ')) : WW y l E nL Q pc lv (.int x :: .ref (ad y o) :: st) σ (pf σ o k x F) :=
  r_putU X hd hF hw hO hf rfl rfl (fun σ' _ => kk σ')
theorem nar_z {x : Int32} (h : x = 0 ∨ x = 1) : narrow .boolean (.int x) = .int x := by
  rcases h with rfl | rfl <;> rfl
theorem fit_z {x : Int32} (h : x = 0 ∨ x = 1) : fits .boolean (.int x) = true := by
  rcases h with rfl | rfl <;> rfl
theorem r_putz {idx ci k o : Nat} {x : Int32} {F : ST → Option α} (X : CX y l E cc nL own rm) (hd : decode cc pc = .ok (.putfield idx, 3)) (hF : FL own idx ci k) (hw : FW ci k .boolean) (hO : o < 14 ∧ co o = ci) (hf : fk ci k = 0) (kk : ∀ σ', WW y l E nL Q (pc + 3) lv st σ' (F σ')) : WW y l E nL Q pc lv (.int x :: .ref (ad y o) :: st) σ (rz x (pf σ o k x F)) := by
  by_cases h : x = 0 ∨ x = 1
  · exact r_of (by simp only [rz]; rw [if_pos h]) (r_putU X hd hF hw hO hf (nar_z h) (fit_z h) (fun σ' _ => kk σ'))
  · exact r_none (by simp only [rz]; rw [if_neg h])
theorem r_iald {o k n : Nat} {i : Int32} {F : Int32 → Option α} (X : CX y l E cc nL own rm) (hd : decode cc pc = .ok (.iaload, 1)) (hA : AR o k n) (kk : ∀ x, WW y l E nL Q (pc + 1) lv (.int x :: st) σ (F x)) : WW y l E nL Q pc lv (.int i :: .ref (aa y o k) :: st) σ (ld σ o k n i F) := by
  by_cases hin : i < 0 ∨ n ≤ i.toNatClampNeg
  · exact r_none (by simp only [ld]; rw [if_pos hin])
  · refine r_of (M' := F (σ.1 o k i.toNatClampNeg)) (by simp only [ld]; rw [if_neg hin]) ?_
    intro a ha H locs ls hH hS hl
    obtain ⟨ho, hk, hA, rfl⟩ := hA
    obtain ⟨hx, hb, -, hown, hts, hNK, hK, -⟩ := X
    have hlt : i.toNatClampNeg < fk (co o) k - 1 := Nat.not_le.mp fun q => hin (Or.inr q)
    exact W.iald (v := .int (σ.1 o k i.toNatClampNeg)) hx hb (hH.2.1 o k ho hk hA) ((hK.2 0 _ rfl).1 _ _) (fun q => by cases q) (by rw [arrV_size]; exact hin) (by rw [arrV_read _ _ hlt]) rfl rfl hd (kk _ a ha H locs ls hH hS hl)
theorem r_iast {o k n : Nat} {i x : Int32} {F : ST → Option α} (X : CX y l E cc nL own rm) (hd : decode cc pc = .ok (.iastore, 1)) (hA : AR o k n) (kk : ∀ σ', WW y l E nL Q (pc + 1) lv st σ' (F σ')) : WW y l E nL Q pc lv (.int x :: .int i :: .ref (aa y o k) :: st) σ (sd σ o k n i x F) := by
  by_cases hin : i < 0 ∨ n ≤ i.toNatClampNeg
  · exact r_none (by simp only [sd]; rw [if_pos hin])
  · refine r_of (M' := F (upd3 σ.1 o k i.toNatClampNeg x, σ.2)) (by simp only [sd]; rw [if_neg hin]) ?_
    intro a ha H locs ls hH hS hl
    obtain ⟨ho, hk, hA, rfl⟩ := hA
    obtain ⟨hx, hb, -, hown, hts, hNK, hK, -⟩ := X
    refine W.iast hx hb (hH.2.1 o k ho hk hA) ((hK.2 0 _ rfl).1 _ _) (fun q => by cases q) (by rw [arrV_size]; exact hin) rfl rfl hd fun H1 e z oq => ?_
    refine kk _ a ha H1 _ ls ?_ (hS.put z oq le_aa) hl
    rw [upd3_updA]
    refine hH.putA ho hk hA ?_ oq
    rw [e, arrV_store]
    congr 2
    funext q
    by_cases hq : q = i.toNatClampNeg
    · subst hq; simp [updV, upd]
    · simp [updV, upd, hq]
theorem r_alen {o k n : Nat} {v : Int32} (X : CX y l E cc nL own rm) (hd : decode cc pc = .ok (.arraylength, 1)) (hA : AR o k n) (hv : Int32.ofNat n = v) (kk : WW y l E nL Q (pc + 1) lv (.int v :: st) σ M) : WW y l E nL Q pc lv (.ref (aa y o k) :: st) σ M := by
  intro a ha H locs ls hH hS hl
  subst hv
  obtain ⟨ho, hk, hA, rfl⟩ := hA
  obtain ⟨hx, hb, -, hown, hts, hNK, hK, -⟩ := X
  exact W.alen (n := Int32.ofNat (fk (co o) k - 1)) hx hb (hH.2.1 o k ho hk hA) ((hK.2 0 _ rfl).1 _ _) (by rw [arrV_size] <;> rfl) rfl rfl hd (kk a ha H locs ls hH hS hl)
theorem r_aald {i : Int32} {F : Nat → Option α} (X : CX y l E cc nL own rm) (hd : decode cc pc = .ok (.aaload, 1)) (kk : ∀ o, 1 ≤ o ∧ o ≤ 11 → WW y l E nL Q (pc + 1) lv (.ref (ad y o) :: st) σ (F o)) : WW y l E nL Q pc lv (.int i :: .ref (aa y 0 4) :: st) σ (pl σ i F) := by
  by_cases hin : i < 0 ∨ 8 ≤ i.toNatClampNeg ∨ ¬ (1 ≤ σ.2 i.toNatClampNeg ∧ σ.2 i.toNatClampNeg ≤ 11)
  · exact r_none (by simp only [pl]; rw [if_pos hin])
  · refine r_of (M' := F (σ.2 i.toNatClampNeg)) (by simp only [pl]; rw [if_neg hin]) ?_
    intro a ha H locs ls hH hS hl
    obtain ⟨hx, hb, -, hown, hts, hNK, hK, -⟩ := X
    have hn1 : ¬ (i < 0 ∨ 8 ≤ i.toNatClampNeg) := fun q => hin (q.elim Or.inl (fun q => Or.inr (Or.inl q)))
    have hO : 1 ≤ σ.2 i.toNatClampNeg ∧ σ.2 i.toNatClampNeg ≤ 11 := Classical.not_not.mp fun q => hin (Or.inr (Or.inr q))
    have hlt : i.toNatClampNeg < 8 := Nat.not_le.mp fun q => hn1 (Or.inr q)
    exact W.aald (v := .ref (ad y (σ.2 i.toNatClampNeg))) (ty := .object RX0) hx hb hH.2.2 ((hK.2 1 _ rfl).1 _ _) rfl (fun q => by cases q) (by rw [arrV_size]; exact hn1) (by rw [arrV_read _ _ hlt]) rfl rfl hd (kk _ hO a ha H locs ls hH hS hl)
theorem r_aast {i : Int32} {o : Nat} {F : ST → Option α} (X : CX y l E cc nL own rm) (hd : decode cc pc = .ok (.aastore, 1)) (hO : 1 ≤ o ∧ o ≤ 11) (kk : ∀ σ', WW y l E nL Q (pc + 1) lv st σ' (F σ')) : WW y l E nL Q pc lv (.ref (ad y o) :: .int i :: .ref (aa y 0 4) :: st) σ (ps σ i o F) := by
  by_cases hin : i < 0 ∨ 8 ≤ i.toNatClampNeg
  · exact r_none (by simp only [ps]; rw [if_pos hin])
  · refine r_of (M' := F (σ.1, fun j => if j = i.toNatClampNeg then o else σ.2 j)) (by simp only [ps]; rw [if_neg hin]) ?_
    intro a ha H locs ls hH hS hl
    obtain ⟨hx, hb, -, hown, hts, hNK, hK, -⟩ := X
    have hlt : i.toNatClampNeg < 8 := Nat.not_le.mp fun q => hin (Or.inr q)
    have h0 : ¬ i < 0 := fun q => hin (Or.inl q)
    obtain ⟨cellV, g1, g2, g3, -⟩ := hH.1 o (oc_st hO).1
    rw [co_st hO] at g2
    have hcls := (hK.1 0 _ rfl).2
    obtain ⟨kA, comp, k1, k2, k3, -⟩ := (hK.2 1 _ rfl).2
    have hcomp : comp = y.2.1 0 := Option.some.inj (k3.symm.trans hcls.1)
    subst hcomp
    obtain ⟨kC, hkC, -⟩ := hcls.2
    refine W.aast hx hb hH.2.2 (fun q h => by cases h) (fun h => by cases h) k1 k2 rfl hkC ⟨h0, by rw [arrV_size]; exact hlt⟩ g1 (fun q h => by rw [g3] at h; cases h) (by rw [g2]; exact hkC) (by rw [g2]; exact va_assign hcls) rfl rfl hd fun H1 e z oq => ?_
    refine kk _ a ha H1 _ ls (hH.putP ?_ oq) (hS.put z oq le_aa) hl
    rw [e, arrV_store]
    congr 2
    funext q
    by_cases hq : q = i.toNatClampNeg
    · subst hq; simp [updV]
    · simp [updV, hq]
end HeapRows
end
section
/-! calls, returns, a method's contract -/
/-- a method's start -/
def PU (y : LY) (As : List Value) (σ : ST) : Array Value → State → Prop := fun a U => a = As.toArray ∧ HR y σ U.heap ∧ KY y U ∧ NK U ∧ y.1 ≤ U.heap.size
/-- a method's contract: from any heap that holds the state, with these arguments, it returns that, the heap holding that state; nothing below is touched -/
def MU (y : LY) (l : Launch) (ym : MethodName) (cc : ByteArray) (n : Nat) (r : Option FieldType) (rm : Room) (As : List Value) (σ : ST) (o : Option Value × ST) : Prop :=
  Met l ym (wsU ym cc n r) rm (PU y As σ) (QU y o) 0 0 (Ay y)
theorem PU.blind {y : LY} {As : List Value} {σ : ST} : FrameBlind (PU y As σ) := fun a U g mk h => ⟨h.1, h.2.1, va_K.moved (u := U) (U := U.calling g mk a) (Vm.Alike.refl U.vm) h.2.2.1, NK.same (u := U) (U := U.calling g mk a) rfl h.2.2.2.1, h.2.2.2.2⟩
/-- what the tables say of a method that is called: an object's one, a class's one -/
def CFv (ym : MethodName) (cc : ByteArray) (n : Nat) (r : Option FieldType) (k : Nat) : Prop :=
  Cond.instanceMethod ym ∈ lw_gd ∧ Cond.selects ym.cls ym ym ∈ lw_gd ∧ Cond.initialized ym.cls ∈ lw_gd ∧ Cond.code ym cc n r ∈ lw_gd ∧ (ym.cls ≠ "java/lang/invoke/MethodHandle" ∧ ym.cls ≠ "java/lang/invoke/VarHandle") ∧ (parseMethodDescriptor ym.desc).map (fun d => d.parameters.length) = some k
def CFs (ym : MethodName) (cc : ByteArray) (n : Nat) (r : Option FieldType) (k : Nat) : Prop :=
  Cond.static ym ∈ lw_gd ∧ Cond.initialized ym.cls ∈ lw_gd ∧ Cond.code ym cc n r ∈ lw_gd ∧ (ym.cls ≠ "java/lang/invoke/MethodHandle" ∧ ym.cls ≠ "java/lang/invoke/VarHandle") ∧ (parseMethodDescriptor ym.desc).map (fun d => d.parameters.length) = some k
def ML (own : String) (idx : Nat) (ym : MethodName) : Prop := Cond.methodLink own idx ym ∈ lw_gd ∨ ∃ host, Cond.methodLinkNest own idx ym host ∈ lw_ns
abbrev RF (rm rm' : Room) (n' : Nat) : Prop := rm'.cells = 0 ∧ rm'.slots = 0 ∧ rm'.frames + 1 ≤ rm.frames ∧ 8 + (n' + 11) + rm'.locals ≤ rm.locals
theorem ws_pay {args : Array Value} {s : State} {ym : MethodName} {cc : ByteArray} {n : Nat} {r : Option FieldType} (hts : ∀ w ∈ lw_gd, w.before args s = true) (hc : Cond.code ym cc n r ∈ lw_gd) : ∀ w ∈ wsU ym cc n r, ∀ (a' : Array Value) (U : State), s.WarmedH U.vm → w.before a' U = true := by
  intro w hw a' U hW
  have h : w ∈ lw_gd := by
    rcases List.mem_cons.mp hw with rfl | h
    · exact hc
    · exact h
  exact word_at hW (gd_gd h) (hts w h)
theorem par_len {d : String} {k : Nat} (h : (parseMethodDescriptor d).map (fun d => d.parameters.length) = some k) : ∀ sig, parseMethodDescriptor d = some sig → k = sig.parameters.length := by
  intro sig hs
  rw [hs] at h
  exact (Option.some.inj h).symm
section CallRows
variable {y : LY} {l : Launch} {E : ET} {nL : Nat} {α : Type} {Q : α → State → Prop} {pc : Nat} {lv : List (Nat × Value)} {st stk : List Value} {σ : ST} {M : Option α} {cc : ByteArray} {own : String} {rm : Room}
variable {ym : MethodName} {c' : ByteArray} {n' k' idx : Nat} {r' : Option FieldType} {rm' : Room} {As : List Value}
theorem r_goOn {β : Type} {F : β → Option α} {ψ : β → Option Value × ST} {a : α} {H : Heap} {locs : List Loc} {ls : Array Slot} {b : β} {aa' : Array Value}
    (hrun : va_Run (eP E) l (eE E) (eR E) (eS E) (eM E) (eA E) (eB E) (eT E) (eC E) H locs (eK E) (eL E) 0 0 (F0 (eM E) pc ls stk) st (QU y (ψ b) aa') (Ay y))
    (hS : va_S (Ay y) (eS E).heap H locs) (hl : lv_has ls nL lv) (ha : F b = some a)
    (kk : ∀ b, WW y l E nL Q (pc + 3) lv ((ψ b).1.toList ++ st) (ψ b).2 (F b)) : WE l E H locs (Q a) (F0 (eM E) pc ls stk) := by
  intro T0 hT X0
  obtain ⟨v, st₀, t, T', L, h0, X', hL, e1, e2, ⟨q1, q2, q3, q4⟩, go⟩ := hrun T0 hT X0
  cases q1
  rw [h0] at q3 q4
  obtain ⟨t2, a1, b1⟩ := kk b a ha T'.heap (locs ++ L) ls (by rw [e1]; exact q2) ⟨Nat.le_trans hS.1 (by rw [e1]; exact q3), fun q h1 h2 => by rw [e1, q4 q (Nat.lt_of_lt_of_le h1 hS.1) h2]; exact hS.2.1 q h1 h2, fun q hq => by
      rcases List.mem_append.mp hq with h | h
      · exact hS.2.2 q h
      · exact hL q h⟩ hl T' rfl X'
  exact ⟨t2, go t2 a1, b1⟩
theorem r_callv {β : Type} {T : Option β} {F : β → Option α} {ψ : β → Option Value × ST} {o : Nat} (X : CX y l E cc nL own rm) (hd : decode cc pc = .ok (.invokevirtual idx, 3)) (hC : CFv ym c' n' r' k') (hL : ML own idx ym) (hR : RF rm rm' n') (hy : y.1 ≤ (eS E).heap.size)
    (hO : o < 14) (hcl : clU[co o]? = some (ym.cls, (clU[co o]?.getD (RX0, TX0, 19)).2)) (hM : ∀ b, T = some b → MU y l ym c' n' r' rm' (.ref (ad y o) :: As) σ (ψ b)) (hn : As.length = k') (hstk : stk = As.reverse ++ .ref (ad y o) :: st) (hW : (st.map fun v => v.category).sum ≤ 8)
    (kk : ∀ b, WW y l E nL Q (pc + 3) lv ((ψ b).1.toList ++ st) (ψ b).2 (F b)) : WW y l E nL Q pc lv stk σ (T.bind F) := by
  intro a ha H locs ls hH hS hl
  cases hT : T with
  | none => rw [hT] at ha; cases ha
  | some b =>
    rw [hT] at ha
    obtain ⟨hx, hb, hml, hown, hts, hNK, hK, hrm, hk1, hk2⟩ := X
    obtain ⟨c1, c2, c3, c4, c5, c6⟩ := hC
    obtain ⟨r1, r2, r3, r4⟩ := hR
    subst hrm
    obtain ⟨cell, q1, q2, q3, -⟩ := hH.1 o hO
    have hfc := (hK.1 _ _ hcl).2.1
    have hP : PreV (eS E) H ym.cls (ad y o) (PU y (.ref (ad y o) :: As) σ) As := ⟨PU.blind, ⟨cell, q1, by rw [q3]; rfl, by rw [q2]; exact hfc⟩, fun U hU hW => ⟨rfl, by rw [hU]; exact hH, va_K.moved hW.alike hK, hNK.warm hW, by rw [hU]; exact Nat.le_trans hy hS.1⟩⟩
    have S : CallFix (eP E) (eM E) (eC E) cc nL (eS E) (eA E) lw_gd own := ⟨hx, hb, hml, hown, hts⟩
    have ha' : F b = some a := ha
    rcases hL with h | ⟨host, h⟩
    · exact r_goOn (va_runV S (hM b hT) ⟨⟨r1, r2, r3, r4, ws_pay hts c4, List.mem_cons_self, hts _ c4, hts _ c3, c5, par_len c6, hts _ h⟩, hts _ c1, hts _ c2⟩ hP rfl hn hl.1 hstk (lv_room hW) hd ⟨hk1, hk2⟩) hS hl ha' kk
    · exact r_goOn (va_runVN S (hM b hT) ⟨⟨⟨r1, r2, r3, r4, ws_pay hts c4, List.mem_cons_self⟩, hts _ c4, hts _ c3, c5, par_len c6, va_Nw.use rfl (hNK _ h)⟩, hts _ c1, hts _ c2⟩ hP rfl hn hl.1 hstk (lv_room hW) hd ⟨hk1, hk2⟩) hS hl ha' kk
theorem r_calls {β : Type} {T : Option β} {F : β → Option α} {ψ : β → Option Value × ST} (X : CX y l E cc nL own rm) (hd : decode cc pc = .ok (.invokestatic idx, 3)) (hC : CFs ym c' n' r' k') (hL : ML own idx ym) (hR : RF rm rm' n') (hy : y.1 ≤ (eS E).heap.size)
    (hM : ∀ b, T = some b → MU y l ym c' n' r' rm' As σ (ψ b)) (hn : As.length = k') (hstk : stk = As.reverse ++ st) (hW : (st.map fun v => v.category).sum ≤ 8)
    (kk : ∀ b, WW y l E nL Q (pc + 3) lv ((ψ b).1.toList ++ st) (ψ b).2 (F b)) : WW y l E nL Q pc lv stk σ (T.bind F) := by
  intro a ha H locs ls hH hS hl
  cases hT : T with
  | none => rw [hT] at ha; cases ha
  | some b =>
    rw [hT] at ha
    obtain ⟨hx, hb, hml, hown, hts, hNK, hK, hrm, hk1, hk2⟩ := X
    obtain ⟨c1, c3, c4, c5, c6⟩ := hC
    obtain ⟨r1, r2, r3, r4⟩ := hR
    subst hrm
    have hP : PreS (eS E) H (PU y As σ) As := ⟨PU.blind, fun U hU hW => ⟨rfl, by rw [hU]; exact hH, va_K.moved hW.alike hK, hNK.warm hW, by rw [hU]; exact Nat.le_trans hy hS.1⟩⟩
    have S : CallFix (eP E) (eM E) (eC E) cc nL (eS E) (eA E) lw_gd own := ⟨hx, hb, hml, hown, hts⟩
    have ha' : F b = some a := ha
    rcases hL with h | ⟨host, h⟩
    · exact r_goOn (va_runS S (hM b hT) ⟨⟨r1, r2, r3, r4, ws_pay hts c4, List.mem_cons_self, hts _ c4, hts _ c3, c5, par_len c6, hts _ h⟩, hts _ c1⟩ hP rfl hn hl.1 hstk (lv_room hW) hd ⟨hk1, hk2⟩) hS hl ha' kk
    · exact r_goOn (va_runSN S (hM b hT) ⟨⟨⟨r1, r2, r3, r4, ws_pay hts c4, List.mem_cons_self⟩, hts _ c4, hts _ c3, c5, par_len c6, va_Nw.use rfl (hNK _ h)⟩, hts _ c1, trivial⟩ hP rfl hn hl.1 hstk (lv_room hW) hd ⟨hk1, hk2⟩) hS hl ha' kk
end CallRows
section RetRows
variable {y : LY} {l : Launch} {E : ET} {nL : Nat} {α : Type} {φ : α → Option Value × ST} {pc : Nat} {lv : List (Nat × Value)} {σ : ST} {cc : ByteArray} {own : String} {rm : Room}
theorem r_iret {x : Int32} {a : α} (X : CX y l E cc nL own rm) (Z : ZX E (some .int)) (hd : decode cc pc = .ok (.ireturn, 1)) (hφ : φ a = (some (.int x), σ)) : WW y l E nL (fun a => QM y E (φ a)) pc lv [.int x] σ (some a) := by
  intro a' ha H locs ls hH hS hl
  cases ha
  obtain ⟨z1, z2, z3, z4⟩ := Z
  have w := W.iret (H := H) (locs := locs) (cells := 0) (slots := 0) (Qc := QU y (φ a)) (free := Ay y) (v := x) (l := l) (R := eR E) (p := eP E) (e := eE E) (s := eS E) (m := eM E) (args := eA E) (below := eB E) (ls := ls) X.1 X.2.1 z1 (fun t ht hW => by rw [QU, hφ]; exact ⟨rfl, by rw [ht]; exact hH, hS.F ht⟩) hS.2.2 hd z2
  show W _ _ _ _ _ _ _ _ _ _ _ _ (eK E) (eL E) _ _
  rw [z3, z4]
  exact w
theorem r_zret {x : Int32} {a : α} (X : CX y l E cc nL own rm) (Z : ZX E (some .boolean)) (hd : decode cc pc = .ok (.ireturn, 1)) (hφ : φ a = (some (.int x), σ)) (hx : x = 0 ∨ x = 1) : WW y l E nL (fun a => QM y E (φ a)) pc lv [.int x] σ (some a) := by
  intro a' ha H locs ls hH hS hl
  cases ha
  obtain ⟨z1, z2, z3, z4⟩ := Z
  have w := W.zret (H := H) (locs := locs) (cells := 0) (slots := 0) (Qc := QU y (φ a)) (free := Ay y) (v := x) (l := l) (R := eR E) (p := eP E) (e := eE E) (s := eS E) (m := eM E) (args := eA E) (below := eB E) (ls := ls) X.1 X.2.1 z1 (nar_z hx) (fun t ht hW => by rw [QU, hφ]; exact ⟨rfl, by rw [ht]; exact hH, hS.F ht⟩) hS.2.2 hd z2
  show W _ _ _ _ _ _ _ _ _ _ _ _ (eK E) (eL E) _ _
  rw [z3, z4]
  exact w
theorem r_zretz {x : Int32} {a : α} (X : CX y l E cc nL own rm) (Z : ZX E (some .boolean)) (hd : decode cc pc = .ok (.ireturn, 1)) (hφ : φ a = (some (.int x), σ)) : WW y l E nL (fun a => QM y E (φ a)) pc lv [.int x] σ (rz x (some a)) := by
  by_cases h : x = 0 ∨ x = 1
  · exact r_of (by simp only [rz]; rw [if_pos h]) (r_zret X Z hd hφ h)
  · exact r_none (by simp only [rz]; rw [if_neg h])
theorem r_lret {x : Int64} {a : α} (X : CX y l E cc nL own rm) (Z : ZX E (some .long)) (hd : decode cc pc = .ok (.lreturn, 1)) (hφ : φ a = (some (.long x), σ)) : WW y l E nL (fun a => QM y E (φ a)) pc lv [.long x] σ (some a) := by
  intro a' ha H locs ls hH hS hl
  cases ha
  obtain ⟨z1, z2, z3, z4⟩ := Z
  have w := W.lret (H := H) (locs := locs) (cells := 0) (slots := 0) (Qc := QU y (φ a)) (free := Ay y) (v := x) (l := l) (R := eR E) (p := eP E) (e := eE E) (s := eS E) (m := eM E) (args := eA E) (below := eB E) (ls := ls) X.1 X.2.1 z1 (fun t ht hW => by rw [QU, hφ]; exact ⟨rfl, by rw [ht]; exact hH, hS.F ht⟩) hS.2.2 hd z2
  show W _ _ _ _ _ _ _ _ _ _ _ _ (eK E) (eL E) _ _
  rw [z3, z4]
  exact w
theorem r_vret {a : α} (X : CX y l E cc nL own rm) (Z : ZX E none) (hd : decode cc pc = .ok (.return_, 1)) (hφ : φ a = (none, σ)) : WW y l E nL (fun a => QM y E (φ a)) pc lv [] σ (some a) := by
  intro a' ha H locs ls hH hS hl
  cases ha
  obtain ⟨z1, z2, z3, z4⟩ := Z
  have w := W.vret (H := H) (locs := locs) (cells := 0) (slots := 0) (Qc := QU y (φ a)) (free := Ay y) (l := l) (R := eR E) (p := eP E) (e := eE E) (s := eS E) (m := eM E) (args := eA E) (below := eB E) (ls := ls) X.1 X.2.1 z1 (fun t ht hW => by rw [QU, hφ]; exact ⟨rfl, by rw [ht]; exact hH, hS.F ht⟩) hS.2.2 hd z2
  show W _ _ _ _ _ _ _ _ _ _ _ _ (eK E) (eL E) _ _
  rw [z3, z4]
  exact w
end RetRows
/-- a method's contract out of the walk of its body -/
theorem MU.of {y : LY} {l : Launch} {ym : MethodName} {cc : ByteArray} {n : Nat} {r : Option FieldType} {rm : Room} {As : List Value} {σ : ST} {α : Type} {φ : α → Option Value × ST} {M : Option α} {a : α} (hM : M = some a) (hy : plainName ym.cls = true) (hn : Nat.ble (lg_sl As).length n = true)
    (body : ∀ E : ET, CX y l E cc n ym.cls rm → ZX E r → y.1 ≤ (eS E).heap.size → WW y l E n (fun a => QM y E (φ a)) 0 (lv_args 0 As) [] σ M) : MU y l ym cc n r rm As σ (φ a) := by
  refine Met.ofW (cc := cc) (maxL := n) (ret := r) (ws' := lw_gd) hy rfl ?_
  intro p e s m args below meth c s₁ B hml hv
  obtain ⟨rfl, hH, hK, hNK, hsz⟩ := hv
  have hts := atoms_spec (ws := wsU ym cc n r) B.pre
  have hown : s.vm.findClass ym.cls = some m.cls := findClass_of_methodNamed B.named
  have hlv := lv_entry As (n := n) (Nat.le_of_ble_eq_true hn)
  rw [lg_entry_eq]
  exact body (p, e, (headSpec (wsU ym cc n r) rm).room, s, m, As.toArray, below, meth, c, 0, 0) ⟨B.exec, B.bytes, hml, hown, fun w hw => hts w (List.mem_cons_of_mem _ hw), hNK, hK, rfl, Nat.zero_le _, Nat.zero_le _⟩ ⟨B.returns, B.notSynchronized, rfl, rfl⟩ hsz a hM s.heap [] _ hH va_S.rf hlv
end
