def lw_okq (q : MethodName × Nat) : Prop := (q.1.cls ≠ "java/lang/invoke/MethodHandle" ∧ q.1.cls ≠ "java/lang/invoke/VarHandle") ∧ Cond.instantiable q.1.cls q.2 ∈ tables_1 ∧ Cond.privateMethod q.1 ∈ tables_1 ∧ Cond.instanceMethod q.1 ∈ tables_1
theorem lw_p0 : lw_okq (⟨"SegmentLog$Uses", "clear", "(I)V"⟩, 2) := ⟨⟨by decide +kernel, by decide +kernel⟩, List.mem_of_getElem? (i := 33) (by decide +kernel), List.mem_of_getElem? (i := 39) (by decide +kernel), List.mem_of_getElem? (i := 40) (by decide +kernel)⟩
theorem lw_p1 : lw_okq (⟨"SegmentLog$Uses", "mark", "(III)V"⟩, 2) := ⟨⟨by decide +kernel, by decide +kernel⟩, List.mem_of_getElem? (i := 33) (by decide +kernel), List.mem_of_getElem? (i := 46) (by decide +kernel), List.mem_of_getElem? (i := 47) (by decide +kernel)⟩
theorem lw_p2 : lw_okq (⟨"SegmentLog$Head", "clear", "()V"⟩, 4) := ⟨⟨by decide +kernel, by decide +kernel⟩, List.mem_of_getElem? (i := 99) (by decide +kernel), List.mem_of_getElem? (i := 105) (by decide +kernel), List.mem_of_getElem? (i := 106) (by decide +kernel)⟩
theorem lw_p3 : lw_okq (⟨"SegmentLog$Blocks", "renew", "(I)V"⟩, 2) := ⟨⟨by decide +kernel, by decide +kernel⟩, List.mem_of_getElem? (i := 18) (by decide +kernel), List.mem_of_getElem? (i := 163) (by decide +kernel), List.mem_of_getElem? (i := 164) (by decide +kernel)⟩
theorem lw_p4 : lw_okq (⟨"SegmentLog$Blocks", "wipe", "(I)V"⟩, 2) := ⟨⟨by decide +kernel, by decide +kernel⟩, List.mem_of_getElem? (i := 18) (by decide +kernel), List.mem_of_getElem? (i := 167) (by decide +kernel), List.mem_of_getElem? (i := 168) (by decide +kernel)⟩
theorem lw_p5 : lw_okq (⟨"SegmentLog$Blocks", "put", "(III)V"⟩, 2) := ⟨⟨by decide +kernel, by decide +kernel⟩, List.mem_of_getElem? (i := 18) (by decide +kernel), List.mem_of_getElem? (i := 171) (by decide +kernel), List.mem_of_getElem? (i := 172) (by decide +kernel)⟩
theorem lw_p6 : lw_okq (⟨"SegmentLog$Blocks", "has", "(II)Z"⟩, 2) := ⟨⟨by decide +kernel, by decide +kernel⟩, List.mem_of_getElem? (i := 18) (by decide +kernel), List.mem_of_getElem? (i := 175) (by decide +kernel), List.mem_of_getElem? (i := 176) (by decide +kernel)⟩
theorem lw_p7 : lw_okq (⟨"SegmentLog", "forget", "()V"⟩, 11) := ⟨⟨by decide +kernel, by decide +kernel⟩, List.mem_of_getElem? (i := 10) (by decide +kernel), List.mem_of_getElem? (i := 180) (by decide +kernel), List.mem_of_getElem? (i := 181) (by decide +kernel)⟩
theorem lw_p8 : lw_okq (⟨"SegmentLog$Queue", "clear", "()V"⟩, 3) := ⟨⟨by decide +kernel, by decide +kernel⟩, List.mem_of_getElem? (i := 58) (by decide +kernel), List.mem_of_getElem? (i := 185) (by decide +kernel), List.mem_of_getElem? (i := 186) (by decide +kernel)⟩
theorem lw_p9 : lw_okq (⟨"SegmentLog$Table", "clear", "()V"⟩, 4) := ⟨⟨by decide +kernel, by decide +kernel⟩, List.mem_of_getElem? (i := 78) (by decide +kernel), List.mem_of_getElem? (i := 189) (by decide +kernel), List.mem_of_getElem? (i := 190) (by decide +kernel)⟩
theorem lw_p10 : lw_okq (⟨"SegmentLog$Uses", "leastFree", "()I"⟩, 2) := ⟨⟨by decide +kernel, by decide +kernel⟩, List.mem_of_getElem? (i := 33) (by decide +kernel), List.mem_of_getElem? (i := 197) (by decide +kernel), List.mem_of_getElem? (i := 198) (by decide +kernel)⟩
theorem lw_p11 : lw_okq (⟨"SegmentLog$Uses", "leastRun", "(I)I"⟩, 2) := ⟨⟨by decide +kernel, by decide +kernel⟩, List.mem_of_getElem? (i := 33) (by decide +kernel), List.mem_of_getElem? (i := 201) (by decide +kernel), List.mem_of_getElem? (i := 202) (by decide +kernel)⟩
theorem lw_p12 : lw_okq (⟨"SegmentLog$Table", "insert", "(JJI)V"⟩, 4) := ⟨⟨by decide +kernel, by decide +kernel⟩, List.mem_of_getElem? (i := 78) (by decide +kernel), List.mem_of_getElem? (i := 205) (by decide +kernel), List.mem_of_getElem? (i := 206) (by decide +kernel)⟩
theorem lw_p13 : lw_okq (⟨"SegmentLog$Table", "upTo", "(J)I"⟩, 4) := ⟨⟨by decide +kernel, by decide +kernel⟩, List.mem_of_getElem? (i := 78) (by decide +kernel), List.mem_of_getElem? (i := 209) (by decide +kernel), List.mem_of_getElem? (i := 210) (by decide +kernel)⟩
theorem lw_p14 : lw_okq (⟨"SegmentLog", "queueLog", "(I)V"⟩, 11) := ⟨⟨by decide +kernel, by decide +kernel⟩, List.mem_of_getElem? (i := 10) (by decide +kernel), List.mem_of_getElem? (i := 213) (by decide +kernel), List.mem_of_getElem? (i := 214) (by decide +kernel)⟩
theorem lw_p15 : lw_okq (⟨"SegmentLog$Queue", "append", "(III)I"⟩, 3) := ⟨⟨by decide +kernel, by decide +kernel⟩, List.mem_of_getElem? (i := 58) (by decide +kernel), List.mem_of_getElem? (i := 217) (by decide +kernel), List.mem_of_getElem? (i := 218) (by decide +kernel)⟩
def lw_privs_1 : List (MethodName × Nat) := [(⟨"SegmentLog$Uses", "clear", "(I)V"⟩, 2), (⟨"SegmentLog$Uses", "mark", "(III)V"⟩, 2), (⟨"SegmentLog$Head", "clear", "()V"⟩, 4), (⟨"SegmentLog$Blocks", "renew", "(I)V"⟩, 2), (⟨"SegmentLog$Blocks", "wipe", "(I)V"⟩, 2), (⟨"SegmentLog$Blocks", "put", "(III)V"⟩, 2), (⟨"SegmentLog$Blocks", "has", "(II)Z"⟩, 2), (⟨"SegmentLog", "forget", "()V"⟩, 11), (⟨"SegmentLog$Queue", "clear", "()V"⟩, 3), (⟨"SegmentLog$Table", "clear", "()V"⟩, 4), (⟨"SegmentLog$Uses", "leastFree", "()I"⟩, 2), (⟨"SegmentLog$Uses", "leastRun", "(I)I"⟩, 2), (⟨"SegmentLog$Table", "insert", "(JJI)V"⟩, 4), (⟨"SegmentLog$Table", "upTo", "(J)I"⟩, 4), (⟨"SegmentLog", "queueLog", "(I)V"⟩, 11), (⟨"SegmentLog$Queue", "append", "(III)I"⟩, 3)]
theorem lw_r1 : ∀ q ∈ lw_privs_1, lw_okq q := List.forall_mem_cons.mpr ⟨lw_p0, List.forall_mem_cons.mpr ⟨lw_p1, List.forall_mem_cons.mpr ⟨lw_p2, List.forall_mem_cons.mpr ⟨lw_p3, List.forall_mem_cons.mpr ⟨lw_p4, List.forall_mem_cons.mpr ⟨lw_p5, List.forall_mem_cons.mpr ⟨lw_p6, List.forall_mem_cons.mpr ⟨lw_p7, List.forall_mem_cons.mpr ⟨lw_p8, List.forall_mem_cons.mpr ⟨lw_p9, List.forall_mem_cons.mpr ⟨lw_p10, List.forall_mem_cons.mpr ⟨lw_p11, List.forall_mem_cons.mpr ⟨lw_p12, List.forall_mem_cons.mpr ⟨lw_p13, List.forall_mem_cons.mpr ⟨lw_p14, List.forall_mem_cons.mpr ⟨lw_p15, fun _ h => absurd h List.not_mem_nil⟩⟩⟩⟩⟩⟩⟩⟩⟩⟩⟩⟩⟩⟩⟩⟩
theorem lw_p16 : lw_okq (⟨"SegmentLog$Blocks", "putNumber", "(IIIJ)V"⟩, 2) := ⟨⟨by decide +kernel, by decide +kernel⟩, List.mem_of_getElem? (i := 18) (by decide +kernel), List.mem_of_getElem? (i := 223) (by decide +kernel), List.mem_of_getElem? (i := 224) (by decide +kernel)⟩
theorem lw_p17 : lw_okq (⟨"SegmentLog$Table", "withSequence", "(I)I"⟩, 4) := ⟨⟨by decide +kernel, by decide +kernel⟩, List.mem_of_getElem? (i := 78) (by decide +kernel), List.mem_of_getElem? (i := 228) (by decide +kernel), List.mem_of_getElem? (i := 229) (by decide +kernel)⟩
theorem lw_p18 : lw_okq (⟨"SegmentLog", "queueRecord", "(III)V"⟩, 11) := ⟨⟨by decide +kernel, by decide +kernel⟩, List.mem_of_getElem? (i := 10) (by decide +kernel), List.mem_of_getElem? (i := 232) (by decide +kernel), List.mem_of_getElem? (i := 233) (by decide +kernel)⟩
theorem lw_p19 : lw_okq (⟨"SegmentLog$Table", "key", "(I)J"⟩, 4) := ⟨⟨by decide +kernel, by decide +kernel⟩, List.mem_of_getElem? (i := 78) (by decide +kernel), List.mem_of_getElem? (i := 236) (by decide +kernel), List.mem_of_getElem? (i := 237) (by decide +kernel)⟩
theorem lw_p20 : lw_okq (⟨"SegmentLog$Table", "has", "(I)Z"⟩, 4) := ⟨⟨by decide +kernel, by decide +kernel⟩, List.mem_of_getElem? (i := 78) (by decide +kernel), List.mem_of_getElem? (i := 240) (by decide +kernel), List.mem_of_getElem? (i := 241) (by decide +kernel)⟩
theorem lw_p21 : lw_okq (⟨"SegmentLog$Table", "value", "(I)J"⟩, 4) := ⟨⟨by decide +kernel, by decide +kernel⟩, List.mem_of_getElem? (i := 78) (by decide +kernel), List.mem_of_getElem? (i := 244) (by decide +kernel), List.mem_of_getElem? (i := 245) (by decide +kernel)⟩
theorem lw_p22 : lw_okq (⟨"SegmentLog$Queue", "seal", "(I)V"⟩, 3) := ⟨⟨by decide +kernel, by decide +kernel⟩, List.mem_of_getElem? (i := 58) (by decide +kernel), List.mem_of_getElem? (i := 248) (by decide +kernel), List.mem_of_getElem? (i := 249) (by decide +kernel)⟩
theorem lw_p23 : lw_okq (⟨"SegmentLog$Queue", "target", "(I)I"⟩, 3) := ⟨⟨by decide +kernel, by decide +kernel⟩, List.mem_of_getElem? (i := 58) (by decide +kernel), List.mem_of_getElem? (i := 252) (by decide +kernel), List.mem_of_getElem? (i := 253) (by decide +kernel)⟩
theorem lw_p24 : lw_okq (⟨"SegmentLog$Blocks", "sum", "(II)J"⟩, 2) := ⟨⟨by decide +kernel, by decide +kernel⟩, List.mem_of_getElem? (i := 18) (by decide +kernel), List.mem_of_getElem? (i := 256) (by decide +kernel), List.mem_of_getElem? (i := 257) (by decide +kernel)⟩
theorem lw_p25 : lw_okq (⟨"SegmentLog$Blocks", "value", "(II)I"⟩, 2) := ⟨⟨by decide +kernel, by decide +kernel⟩, List.mem_of_getElem? (i := 18) (by decide +kernel), List.mem_of_getElem? (i := 260) (by decide +kernel), List.mem_of_getElem? (i := 261) (by decide +kernel)⟩
theorem lw_p26 : lw_okq (⟨"SegmentLog$Queue", "bytes", "()I"⟩, 3) := ⟨⟨by decide +kernel, by decide +kernel⟩, List.mem_of_getElem? (i := 58) (by decide +kernel), List.mem_of_getElem? (i := 275) (by decide +kernel), List.mem_of_getElem? (i := 276) (by decide +kernel)⟩
theorem lw_p27 : lw_okq (⟨"SegmentLog$Queue", "drain", "(LSegmentLog$Blocks;I)I"⟩, 3) := ⟨⟨by decide +kernel, by decide +kernel⟩, List.mem_of_getElem? (i := 58) (by decide +kernel), List.mem_of_getElem? (i := 279) (by decide +kernel), List.mem_of_getElem? (i := 280) (by decide +kernel)⟩
theorem lw_p28 : lw_okq (⟨"SegmentLog", "planHead", "(ZIII)V"⟩, 11) := ⟨⟨by decide +kernel, by decide +kernel⟩, List.mem_of_getElem? (i := 10) (by decide +kernel), List.mem_of_getElem? (i := 294) (by decide +kernel), List.mem_of_getElem? (i := 295) (by decide +kernel)⟩
theorem lw_p29 : lw_okq (⟨"SegmentLog$Head", "appendAll", "(LSegmentLog$Head;)V"⟩, 4) := ⟨⟨by decide +kernel, by decide +kernel⟩, List.mem_of_getElem? (i := 99) (by decide +kernel), List.mem_of_getElem? (i := 298) (by decide +kernel), List.mem_of_getElem? (i := 299) (by decide +kernel)⟩
theorem lw_p30 : lw_okq (⟨"SegmentLog$Head", "field", "(II)I"⟩, 4) := ⟨⟨by decide +kernel, by decide +kernel⟩, List.mem_of_getElem? (i := 99) (by decide +kernel), List.mem_of_getElem? (i := 302) (by decide +kernel), List.mem_of_getElem? (i := 303) (by decide +kernel)⟩
theorem lw_p31 : lw_okq (⟨"SegmentLog$Head", "append", "(IIII)V"⟩, 4) := ⟨⟨by decide +kernel, by decide +kernel⟩, List.mem_of_getElem? (i := 99) (by decide +kernel), List.mem_of_getElem? (i := 306) (by decide +kernel), List.mem_of_getElem? (i := 307) (by decide +kernel)⟩
def lw_privs_2 : List (MethodName × Nat) := [(⟨"SegmentLog$Blocks", "putNumber", "(IIIJ)V"⟩, 2), (⟨"SegmentLog$Table", "withSequence", "(I)I"⟩, 4), (⟨"SegmentLog", "queueRecord", "(III)V"⟩, 11), (⟨"SegmentLog$Table", "key", "(I)J"⟩, 4), (⟨"SegmentLog$Table", "has", "(I)Z"⟩, 4), (⟨"SegmentLog$Table", "value", "(I)J"⟩, 4), (⟨"SegmentLog$Queue", "seal", "(I)V"⟩, 3), (⟨"SegmentLog$Queue", "target", "(I)I"⟩, 3), (⟨"SegmentLog$Blocks", "sum", "(II)J"⟩, 2), (⟨"SegmentLog$Blocks", "value", "(II)I"⟩, 2), (⟨"SegmentLog$Queue", "bytes", "()I"⟩, 3), (⟨"SegmentLog$Queue", "drain", "(LSegmentLog$Blocks;I)I"⟩, 3), (⟨"SegmentLog", "planHead", "(ZIII)V"⟩, 11), (⟨"SegmentLog$Head", "appendAll", "(LSegmentLog$Head;)V"⟩, 4), (⟨"SegmentLog$Head", "field", "(II)I"⟩, 4), (⟨"SegmentLog$Head", "append", "(IIII)V"⟩, 4)]
theorem lw_r2 : ∀ q ∈ lw_privs_2, lw_okq q := List.forall_mem_cons.mpr ⟨lw_p16, List.forall_mem_cons.mpr ⟨lw_p17, List.forall_mem_cons.mpr ⟨lw_p18, List.forall_mem_cons.mpr ⟨lw_p19, List.forall_mem_cons.mpr ⟨lw_p20, List.forall_mem_cons.mpr ⟨lw_p21, List.forall_mem_cons.mpr ⟨lw_p22, List.forall_mem_cons.mpr ⟨lw_p23, List.forall_mem_cons.mpr ⟨lw_p24, List.forall_mem_cons.mpr ⟨lw_p25, List.forall_mem_cons.mpr ⟨lw_p26, List.forall_mem_cons.mpr ⟨lw_p27, List.forall_mem_cons.mpr ⟨lw_p28, List.forall_mem_cons.mpr ⟨lw_p29, List.forall_mem_cons.mpr ⟨lw_p30, List.forall_mem_cons.mpr ⟨lw_p31, fun _ h => absurd h List.not_mem_nil⟩⟩⟩⟩⟩⟩⟩⟩⟩⟩⟩⟩⟩⟩⟩⟩
theorem lw_p32 : lw_okq (⟨"SegmentLog", "queueFile", "(Z)V"⟩, 11) := ⟨⟨by decide +kernel, by decide +kernel⟩, List.mem_of_getElem? (i := 10) (by decide +kernel), List.mem_of_getElem? (i := 311) (by decide +kernel), List.mem_of_getElem? (i := 312) (by decide +kernel)⟩
theorem lw_p33 : lw_okq (⟨"SegmentLog$Table", "sequence", "(I)I"⟩, 4) := ⟨⟨by decide +kernel, by decide +kernel⟩, List.mem_of_getElem? (i := 78) (by decide +kernel), List.mem_of_getElem? (i := 320) (by decide +kernel), List.mem_of_getElem? (i := 321) (by decide +kernel)⟩
theorem lw_p34 : lw_okq (⟨"SegmentLog", "queueHead", "()V"⟩, 11) := ⟨⟨by decide +kernel, by decide +kernel⟩, List.mem_of_getElem? (i := 10) (by decide +kernel), List.mem_of_getElem? (i := 324) (by decide +kernel), List.mem_of_getElem? (i := 325) (by decide +kernel)⟩
theorem lw_p35 : lw_okq (⟨"SegmentLog", "takePlannedHead", "(Z)V"⟩, 11) := ⟨⟨by decide +kernel, by decide +kernel⟩, List.mem_of_getElem? (i := 10) (by decide +kernel), List.mem_of_getElem? (i := 331) (by decide +kernel), List.mem_of_getElem? (i := 332) (by decide +kernel)⟩
theorem lw_p36 : lw_okq (⟨"SegmentLog", "swapHeads", "()V"⟩, 11) := ⟨⟨by decide +kernel, by decide +kernel⟩, List.mem_of_getElem? (i := 10) (by decide +kernel), List.mem_of_getElem? (i := 335) (by decide +kernel), List.mem_of_getElem? (i := 336) (by decide +kernel)⟩
theorem lw_p37 : lw_okq (⟨"SegmentLog$Uses", "turn", "(II)V"⟩, 2) := ⟨⟨by decide +kernel, by decide +kernel⟩, List.mem_of_getElem? (i := 33) (by decide +kernel), List.mem_of_getElem? (i := 339) (by decide +kernel), List.mem_of_getElem? (i := 340) (by decide +kernel)⟩
theorem lw_p38 : lw_okq (⟨"SegmentLog$Table", "settle", "()V"⟩, 4) := ⟨⟨by decide +kernel, by decide +kernel⟩, List.mem_of_getElem? (i := 78) (by decide +kernel), List.mem_of_getElem? (i := 343) (by decide +kernel), List.mem_of_getElem? (i := 344) (by decide +kernel)⟩
theorem lw_p39 : lw_okq (⟨"SegmentLog", "chooseHead", "()V"⟩, 11) := ⟨⟨by decide +kernel, by decide +kernel⟩, List.mem_of_getElem? (i := 10) (by decide +kernel), List.mem_of_getElem? (i := 355) (by decide +kernel), List.mem_of_getElem? (i := 356) (by decide +kernel)⟩
theorem lw_p40 : lw_okq (⟨"SegmentLog$Head", "read", "(LSegmentLog$Blocks;I)V"⟩, 4) := ⟨⟨by decide +kernel, by decide +kernel⟩, List.mem_of_getElem? (i := 99) (by decide +kernel), List.mem_of_getElem? (i := 359) (by decide +kernel), List.mem_of_getElem? (i := 360) (by decide +kernel)⟩
theorem lw_p41 : lw_okq (⟨"SegmentLog$Blocks", "isWhole", "(I)Z"⟩, 2) := ⟨⟨by decide +kernel, by decide +kernel⟩, List.mem_of_getElem? (i := 18) (by decide +kernel), List.mem_of_getElem? (i := 363) (by decide +kernel), List.mem_of_getElem? (i := 364) (by decide +kernel)⟩
theorem lw_p42 : lw_okq (⟨"SegmentLog$Blocks", "number", "(III)J"⟩, 2) := ⟨⟨by decide +kernel, by decide +kernel⟩, List.mem_of_getElem? (i := 18) (by decide +kernel), List.mem_of_getElem? (i := 367) (by decide +kernel), List.mem_of_getElem? (i := 368) (by decide +kernel)⟩
theorem lw_p43 : lw_okq (⟨"SegmentLog$Head", "readFiles", "(LSegmentLog$Blocks;I)Z"⟩, 4) := ⟨⟨by decide +kernel, by decide +kernel⟩, List.mem_of_getElem? (i := 99) (by decide +kernel), List.mem_of_getElem? (i := 379) (by decide +kernel), List.mem_of_getElem? (i := 380) (by decide +kernel)⟩
theorem lw_p44 : lw_okq (⟨"SegmentLog$Head", "overlaps", "(II)Z"⟩, 4) := ⟨⟨by decide +kernel, by decide +kernel⟩, List.mem_of_getElem? (i := 99) (by decide +kernel), List.mem_of_getElem? (i := 385) (by decide +kernel), List.mem_of_getElem? (i := 386) (by decide +kernel)⟩
theorem lw_p45 : lw_okq (⟨"SegmentLog", "firstWrongBlock", "()I"⟩, 11) := ⟨⟨by decide +kernel, by decide +kernel⟩, List.mem_of_getElem? (i := 10) (by decide +kernel), List.mem_of_getElem? (i := 389) (by decide +kernel), List.mem_of_getElem? (i := 390) (by decide +kernel)⟩
theorem lw_p46 : lw_okq (⟨"SegmentLog", "isFileBlock", "(II)Z"⟩, 11) := ⟨⟨by decide +kernel, by decide +kernel⟩, List.mem_of_getElem? (i := 10) (by decide +kernel), List.mem_of_getElem? (i := 393) (by decide +kernel), List.mem_of_getElem? (i := 394) (by decide +kernel)⟩
theorem lw_p47 : lw_okq (⟨"SegmentLog", "readFile", "(I)V"⟩, 11) := ⟨⟨by decide +kernel, by decide +kernel⟩, List.mem_of_getElem? (i := 10) (by decide +kernel), List.mem_of_getElem? (i := 401) (by decide +kernel), List.mem_of_getElem? (i := 402) (by decide +kernel)⟩
def lw_privs_3 : List (MethodName × Nat) := [(⟨"SegmentLog", "queueFile", "(Z)V"⟩, 11), (⟨"SegmentLog$Table", "sequence", "(I)I"⟩, 4), (⟨"SegmentLog", "queueHead", "()V"⟩, 11), (⟨"SegmentLog", "takePlannedHead", "(Z)V"⟩, 11), (⟨"SegmentLog", "swapHeads", "()V"⟩, 11), (⟨"SegmentLog$Uses", "turn", "(II)V"⟩, 2), (⟨"SegmentLog$Table", "settle", "()V"⟩, 4), (⟨"SegmentLog", "chooseHead", "()V"⟩, 11), (⟨"SegmentLog$Head", "read", "(LSegmentLog$Blocks;I)V"⟩, 4), (⟨"SegmentLog$Blocks", "isWhole", "(I)Z"⟩, 2), (⟨"SegmentLog$Blocks", "number", "(III)J"⟩, 2), (⟨"SegmentLog$Head", "readFiles", "(LSegmentLog$Blocks;I)Z"⟩, 4), (⟨"SegmentLog$Head", "overlaps", "(II)Z"⟩, 4), (⟨"SegmentLog", "firstWrongBlock", "()I"⟩, 11), (⟨"SegmentLog", "isFileBlock", "(II)Z"⟩, 11), (⟨"SegmentLog", "readFile", "(I)V"⟩, 11)]
theorem lw_r3 : ∀ q ∈ lw_privs_3, lw_okq q := List.forall_mem_cons.mpr ⟨lw_p32, List.forall_mem_cons.mpr ⟨lw_p33, List.forall_mem_cons.mpr ⟨lw_p34, List.forall_mem_cons.mpr ⟨lw_p35, List.forall_mem_cons.mpr ⟨lw_p36, List.forall_mem_cons.mpr ⟨lw_p37, List.forall_mem_cons.mpr ⟨lw_p38, List.forall_mem_cons.mpr ⟨lw_p39, List.forall_mem_cons.mpr ⟨lw_p40, List.forall_mem_cons.mpr ⟨lw_p41, List.forall_mem_cons.mpr ⟨lw_p42, List.forall_mem_cons.mpr ⟨lw_p43, List.forall_mem_cons.mpr ⟨lw_p44, List.forall_mem_cons.mpr ⟨lw_p45, List.forall_mem_cons.mpr ⟨lw_p46, List.forall_mem_cons.mpr ⟨lw_p47, fun _ h => absurd h List.not_mem_nil⟩⟩⟩⟩⟩⟩⟩⟩⟩⟩⟩⟩⟩⟩⟩⟩
theorem lw_p48 : lw_okq (⟨"SegmentLog", "readRecord", "(III)V"⟩, 11) := ⟨⟨by decide +kernel, by decide +kernel⟩, List.mem_of_getElem? (i := 10) (by decide +kernel), List.mem_of_getElem? (i := 405) (by decide +kernel), List.mem_of_getElem? (i := 406) (by decide +kernel)⟩
theorem lw_p49 : lw_okq (⟨"SegmentLog", "replayLog", "()V"⟩, 11) := ⟨⟨by decide +kernel, by decide +kernel⟩, List.mem_of_getElem? (i := 10) (by decide +kernel), List.mem_of_getElem? (i := 412) (by decide +kernel), List.mem_of_getElem? (i := 413) (by decide +kernel)⟩
theorem lw_p50 : lw_okq (⟨"SegmentLog$Uses", "of", "(I)I"⟩, 2) := ⟨⟨by decide +kernel, by decide +kernel⟩, List.mem_of_getElem? (i := 33) (by decide +kernel), List.mem_of_getElem? (i := 416) (by decide +kernel), List.mem_of_getElem? (i := 417) (by decide +kernel)⟩
theorem lw_p51 : lw_okq (⟨"SegmentLog", "nextLogBlock", "()I"⟩, 11) := ⟨⟨by decide +kernel, by decide +kernel⟩, List.mem_of_getElem? (i := 10) (by decide +kernel), List.mem_of_getElem? (i := 420) (by decide +kernel), List.mem_of_getElem? (i := 421) (by decide +kernel)⟩
theorem lw_p52 : lw_okq (⟨"SegmentLog", "readLogBlock", "(I)V"⟩, 11) := ⟨⟨by decide +kernel, by decide +kernel⟩, List.mem_of_getElem? (i := 10) (by decide +kernel), List.mem_of_getElem? (i := 424) (by decide +kernel), List.mem_of_getElem? (i := 425) (by decide +kernel)⟩
theorem lw_p53 : lw_okq (⟨"SegmentLog", "wipeOldLog", "()V"⟩, 11) := ⟨⟨by decide +kernel, by decide +kernel⟩, List.mem_of_getElem? (i := 10) (by decide +kernel), List.mem_of_getElem? (i := 428) (by decide +kernel), List.mem_of_getElem? (i := 429) (by decide +kernel)⟩
theorem lw_p54 : lw_okq (⟨"SegmentLog$Table", "below", "(J)I"⟩, 4) := ⟨⟨by decide +kernel, by decide +kernel⟩, List.mem_of_getElem? (i := 78) (by decide +kernel), List.mem_of_getElem? (i := 442) (by decide +kernel), List.mem_of_getElem? (i := 443) (by decide +kernel)⟩
theorem lw_p55 : lw_okq (⟨"SegmentLog", "placeOf", "(I)I"⟩, 11) := ⟨⟨by decide +kernel, by decide +kernel⟩, List.mem_of_getElem? (i := 10) (by decide +kernel), List.mem_of_getElem? (i := 455) (by decide +kernel), List.mem_of_getElem? (i := 456) (by decide +kernel)⟩
theorem lw_p56 : lw_okq (⟨"SegmentLog", "shouldBeWhole", "(I)Z"⟩, 11) := ⟨⟨by decide +kernel, by decide +kernel⟩, List.mem_of_getElem? (i := 10) (by decide +kernel), List.mem_of_getElem? (i := 480) (by decide +kernel), List.mem_of_getElem? (i := 481) (by decide +kernel)⟩
theorem lw_p57 : lw_okq (⟨"SegmentLog$Queue", "holds", "(I)Z"⟩, 3) := ⟨⟨by decide +kernel, by decide +kernel⟩, List.mem_of_getElem? (i := 58) (by decide +kernel), List.mem_of_getElem? (i := 484) (by decide +kernel), List.mem_of_getElem? (i := 485) (by decide +kernel)⟩
theorem lw_p58 : lw_okq (⟨"SegmentLog", "countOpen", "(I)I"⟩, 11) := ⟨⟨by decide +kernel, by decide +kernel⟩, List.mem_of_getElem? (i := 10) (by decide +kernel), List.mem_of_getElem? (i := 497) (by decide +kernel), List.mem_of_getElem? (i := 498) (by decide +kernel)⟩
theorem lw_p59 : lw_okq (⟨"SegmentLog$Uses", "howMany", "(I)I"⟩, 2) := ⟨⟨by decide +kernel, by decide +kernel⟩, List.mem_of_getElem? (i := 33) (by decide +kernel), List.mem_of_getElem? (i := 501) (by decide +kernel), List.mem_of_getElem? (i := 502) (by decide +kernel)⟩
theorem lw_p60 : lw_okq (⟨"SegmentLogModel", "forget", "()V"⟩, 22) := ⟨⟨by decide +kernel, by decide +kernel⟩, List.mem_of_getElem? (i := 505) (by decide +kernel), List.mem_of_getElem? (i := 520) (by decide +kernel), List.mem_of_getElem? (i := 521) (by decide +kernel)⟩
theorem lw_p61 : lw_okq (⟨"SegmentLogModel", "free", "(I)I"⟩, 22) := ⟨⟨by decide +kernel, by decide +kernel⟩, List.mem_of_getElem? (i := 505) (by decide +kernel), List.mem_of_getElem? (i := 596) (by decide +kernel), List.mem_of_getElem? (i := 597) (by decide +kernel)⟩
theorem lw_p62 : lw_okq (⟨"SegmentLogModel", "useOf", "(I)I"⟩, 22) := ⟨⟨by decide +kernel, by decide +kernel⟩, List.mem_of_getElem? (i := 505) (by decide +kernel), List.mem_of_getElem? (i := 600) (by decide +kernel), List.mem_of_getElem? (i := 601) (by decide +kernel)⟩
theorem lw_p63 : lw_okq (⟨"SegmentLogModel", "isOfFiles", "(I)Z"⟩, 22) := ⟨⟨by decide +kernel, by decide +kernel⟩, List.mem_of_getElem? (i := 505) (by decide +kernel), List.mem_of_getElem? (i := 604) (by decide +kernel), List.mem_of_getElem? (i := 605) (by decide +kernel)⟩
def lw_privs_4 : List (MethodName × Nat) := [(⟨"SegmentLog", "readRecord", "(III)V"⟩, 11), (⟨"SegmentLog", "replayLog", "()V"⟩, 11), (⟨"SegmentLog$Uses", "of", "(I)I"⟩, 2), (⟨"SegmentLog", "nextLogBlock", "()I"⟩, 11), (⟨"SegmentLog", "readLogBlock", "(I)V"⟩, 11), (⟨"SegmentLog", "wipeOldLog", "()V"⟩, 11), (⟨"SegmentLog$Table", "below", "(J)I"⟩, 4), (⟨"SegmentLog", "placeOf", "(I)I"⟩, 11), (⟨"SegmentLog", "shouldBeWhole", "(I)Z"⟩, 11), (⟨"SegmentLog$Queue", "holds", "(I)Z"⟩, 3), (⟨"SegmentLog", "countOpen", "(I)I"⟩, 11), (⟨"SegmentLog$Uses", "howMany", "(I)I"⟩, 2), (⟨"SegmentLogModel", "forget", "()V"⟩, 22), (⟨"SegmentLogModel", "free", "(I)I"⟩, 22), (⟨"SegmentLogModel", "useOf", "(I)I"⟩, 22), (⟨"SegmentLogModel", "isOfFiles", "(I)Z"⟩, 22)]
theorem lw_r4 : ∀ q ∈ lw_privs_4, lw_okq q := List.forall_mem_cons.mpr ⟨lw_p48, List.forall_mem_cons.mpr ⟨lw_p49, List.forall_mem_cons.mpr ⟨lw_p50, List.forall_mem_cons.mpr ⟨lw_p51, List.forall_mem_cons.mpr ⟨lw_p52, List.forall_mem_cons.mpr ⟨lw_p53, List.forall_mem_cons.mpr ⟨lw_p54, List.forall_mem_cons.mpr ⟨lw_p55, List.forall_mem_cons.mpr ⟨lw_p56, List.forall_mem_cons.mpr ⟨lw_p57, List.forall_mem_cons.mpr ⟨lw_p58, List.forall_mem_cons.mpr ⟨lw_p59, List.forall_mem_cons.mpr ⟨lw_p60, List.forall_mem_cons.mpr ⟨lw_p61, List.forall_mem_cons.mpr ⟨lw_p62, List.forall_mem_cons.mpr ⟨lw_p63, fun _ h => absurd h List.not_mem_nil⟩⟩⟩⟩⟩⟩⟩⟩⟩⟩⟩⟩⟩⟩⟩⟩
theorem lw_p64 : lw_okq (⟨"SegmentLogModel", "writesLog", "()Z"⟩, 22) := ⟨⟨by decide +kernel, by decide +kernel⟩, List.mem_of_getElem? (i := 505) (by decide +kernel), List.mem_of_getElem? (i := 608) (by decide +kernel), List.mem_of_getElem? (i := 609) (by decide +kernel)⟩
theorem lw_p65 : lw_okq (⟨"SegmentLogModel", "begin", "(I)V"⟩, 22) := ⟨⟨by decide +kernel, by decide +kernel⟩, List.mem_of_getElem? (i := 505) (by decide +kernel), List.mem_of_getElem? (i := 612) (by decide +kernel), List.mem_of_getElem? (i := 613) (by decide +kernel)⟩
theorem lw_p66 : lw_okq (⟨"SegmentLogModel", "put", "(IJI)V"⟩, 22) := ⟨⟨by decide +kernel, by decide +kernel⟩, List.mem_of_getElem? (i := 505) (by decide +kernel), List.mem_of_getElem? (i := 616) (by decide +kernel), List.mem_of_getElem? (i := 617) (by decide +kernel)⟩
theorem lw_p67 : lw_okq (⟨"SegmentLogModel", "end", "()V"⟩, 22) := ⟨⟨by decide +kernel, by decide +kernel⟩, List.mem_of_getElem? (i := 505) (by decide +kernel), List.mem_of_getElem? (i := 620) (by decide +kernel), List.mem_of_getElem? (i := 621) (by decide +kernel)⟩
theorem lw_p68 : lw_okq (⟨"SegmentLogModel", "pours", "(J)I"⟩, 22) := ⟨⟨by decide +kernel, by decide +kernel⟩, List.mem_of_getElem? (i := 505) (by decide +kernel), List.mem_of_getElem? (i := 636) (by decide +kernel), List.mem_of_getElem? (i := 637) (by decide +kernel)⟩
theorem lw_p69 : lw_okq (⟨"SegmentLogModel", "inFiles", "()I"⟩, 22) := ⟨⟨by decide +kernel, by decide +kernel⟩, List.mem_of_getElem? (i := 505) (by decide +kernel), List.mem_of_getElem? (i := 644) (by decide +kernel), List.mem_of_getElem? (i := 645) (by decide +kernel)⟩
theorem lw_p70 : lw_okq (⟨"SegmentLogModel", "sort", "(I)V"⟩, 22) := ⟨⟨by decide +kernel, by decide +kernel⟩, List.mem_of_getElem? (i := 505) (by decide +kernel), List.mem_of_getElem? (i := 648) (by decide +kernel), List.mem_of_getElem? (i := 649) (by decide +kernel)⟩
theorem lw_p71 : lw_okq (⟨"SegmentLogModel", "writesFile", "(IIIII)V"⟩, 22) := ⟨⟨by decide +kernel, by decide +kernel⟩, List.mem_of_getElem? (i := 505) (by decide +kernel), List.mem_of_getElem? (i := 652) (by decide +kernel), List.mem_of_getElem? (i := 653) (by decide +kernel)⟩
theorem lw_p72 : lw_okq (⟨"SegmentLogModel", "writesHead", "(I)V"⟩, 22) := ⟨⟨by decide +kernel, by decide +kernel⟩, List.mem_of_getElem? (i := 505) (by decide +kernel), List.mem_of_getElem? (i := 657) (by decide +kernel), List.mem_of_getElem? (i := 658) (by decide +kernel)⟩
theorem lw_p73 : lw_okq (⟨"SegmentLogModel", "closes", "()V"⟩, 22) := ⟨⟨by decide +kernel, by decide +kernel⟩, List.mem_of_getElem? (i := 505) (by decide +kernel), List.mem_of_getElem? (i := 662) (by decide +kernel), List.mem_of_getElem? (i := 663) (by decide +kernel)⟩
theorem lw_p74 : lw_okq (⟨"SegmentLogModel", "isHead", "(I)Z"⟩, 22) := ⟨⟨by decide +kernel, by decide +kernel⟩, List.mem_of_getElem? (i := 505) (by decide +kernel), List.mem_of_getElem? (i := 674) (by decide +kernel), List.mem_of_getElem? (i := 675) (by decide +kernel)⟩
theorem lw_p75 : lw_okq (⟨"SegmentLogModel", "isWhole", "(I)Z"⟩, 22) := ⟨⟨by decide +kernel, by decide +kernel⟩, List.mem_of_getElem? (i := 505) (by decide +kernel), List.mem_of_getElem? (i := 681) (by decide +kernel), List.mem_of_getElem? (i := 682) (by decide +kernel)⟩
theorem lw_p76 : lw_okq (⟨"SegmentLogModel", "isFile", "(III)Z"⟩, 22) := ⟨⟨by decide +kernel, by decide +kernel⟩, List.mem_of_getElem? (i := 505) (by decide +kernel), List.mem_of_getElem? (i := 687) (by decide +kernel), List.mem_of_getElem? (i := 688) (by decide +kernel)⟩
theorem lw_p77 : lw_okq (⟨"SegmentLogModel", "readsFiles", "(I)I"⟩, 22) := ⟨⟨by decide +kernel, by decide +kernel⟩, List.mem_of_getElem? (i := 505) (by decide +kernel), List.mem_of_getElem? (i := 691) (by decide +kernel), List.mem_of_getElem? (i := 692) (by decide +kernel)⟩
theorem lw_p78 : lw_okq (⟨"SegmentLogModel", "isFileBlock", "(II)Z"⟩, 22) := ⟨⟨by decide +kernel, by decide +kernel⟩, List.mem_of_getElem? (i := 505) (by decide +kernel), List.mem_of_getElem? (i := 695) (by decide +kernel), List.mem_of_getElem? (i := 696) (by decide +kernel)⟩
theorem lw_p79 : lw_okq (⟨"SegmentLogModel", "reads", "(II)V"⟩, 22) := ⟨⟨by decide +kernel, by decide +kernel⟩, List.mem_of_getElem? (i := 505) (by decide +kernel), List.mem_of_getElem? (i := 699) (by decide +kernel), List.mem_of_getElem? (i := 700) (by decide +kernel)⟩
def lw_privs_5 : List (MethodName × Nat) := [(⟨"SegmentLogModel", "writesLog", "()Z"⟩, 22), (⟨"SegmentLogModel", "begin", "(I)V"⟩, 22), (⟨"SegmentLogModel", "put", "(IJI)V"⟩, 22), (⟨"SegmentLogModel", "end", "()V"⟩, 22), (⟨"SegmentLogModel", "pours", "(J)I"⟩, 22), (⟨"SegmentLogModel", "inFiles", "()I"⟩, 22), (⟨"SegmentLogModel", "sort", "(I)V"⟩, 22), (⟨"SegmentLogModel", "writesFile", "(IIIII)V"⟩, 22), (⟨"SegmentLogModel", "writesHead", "(I)V"⟩, 22), (⟨"SegmentLogModel", "closes", "()V"⟩, 22), (⟨"SegmentLogModel", "isHead", "(I)Z"⟩, 22), (⟨"SegmentLogModel", "isWhole", "(I)Z"⟩, 22), (⟨"SegmentLogModel", "isFile", "(III)Z"⟩, 22), (⟨"SegmentLogModel", "readsFiles", "(I)I"⟩, 22), (⟨"SegmentLogModel", "isFileBlock", "(II)Z"⟩, 22), (⟨"SegmentLogModel", "reads", "(II)V"⟩, 22)]
theorem lw_r5 : ∀ q ∈ lw_privs_5, lw_okq q := List.forall_mem_cons.mpr ⟨lw_p64, List.forall_mem_cons.mpr ⟨lw_p65, List.forall_mem_cons.mpr ⟨lw_p66, List.forall_mem_cons.mpr ⟨lw_p67, List.forall_mem_cons.mpr ⟨lw_p68, List.forall_mem_cons.mpr ⟨lw_p69, List.forall_mem_cons.mpr ⟨lw_p70, List.forall_mem_cons.mpr ⟨lw_p71, List.forall_mem_cons.mpr ⟨lw_p72, List.forall_mem_cons.mpr ⟨lw_p73, List.forall_mem_cons.mpr ⟨lw_p74, List.forall_mem_cons.mpr ⟨lw_p75, List.forall_mem_cons.mpr ⟨lw_p76, List.forall_mem_cons.mpr ⟨lw_p77, List.forall_mem_cons.mpr ⟨lw_p78, List.forall_mem_cons.mpr ⟨lw_p79, fun _ h => absurd h List.not_mem_nil⟩⟩⟩⟩⟩⟩⟩⟩⟩⟩⟩⟩⟩⟩⟩⟩
theorem lw_p80 : lw_okq (⟨"SegmentLogModel", "readsLogs", "()V"⟩, 22) := ⟨⟨by decide +kernel, by decide +kernel⟩, List.mem_of_getElem? (i := 505) (by decide +kernel), List.mem_of_getElem? (i := 703) (by decide +kernel), List.mem_of_getElem? (i := 704) (by decide +kernel)⟩
theorem lw_p81 : lw_okq (⟨"SegmentLogModel", "isLog", "(I)Z"⟩, 22) := ⟨⟨by decide +kernel, by decide +kernel⟩, List.mem_of_getElem? (i := 505) (by decide +kernel), List.mem_of_getElem? (i := 707) (by decide +kernel), List.mem_of_getElem? (i := 708) (by decide +kernel)⟩
theorem lw_p82 : lw_okq (⟨"SegmentLogModel", "isQueued", "(I)Z"⟩, 22) := ⟨⟨by decide +kernel, by decide +kernel⟩, List.mem_of_getElem? (i := 505) (by decide +kernel), List.mem_of_getElem? (i := 715) (by decide +kernel), List.mem_of_getElem? (i := 716) (by decide +kernel)⟩
def lw_privs_6 : List (MethodName × Nat) := [(⟨"SegmentLogModel", "readsLogs", "()V"⟩, 22), (⟨"SegmentLogModel", "isLog", "(I)Z"⟩, 22), (⟨"SegmentLogModel", "isQueued", "(I)Z"⟩, 22)]
theorem lw_r6 : ∀ q ∈ lw_privs_6, lw_okq q := List.forall_mem_cons.mpr ⟨lw_p80, List.forall_mem_cons.mpr ⟨lw_p81, List.forall_mem_cons.mpr ⟨lw_p82, fun _ h => absurd h List.not_mem_nil⟩⟩⟩
def lw_privs : List (MethodName × Nat) := lw_privs_1 ++ (lw_privs_2 ++ (lw_privs_3 ++ (lw_privs_4 ++ (lw_privs_5 ++ (lw_privs_6)))))
def lw_tbl : List Cond := k2_sels lw_privs ++ tables_1
theorem lw_privs_ok : ∀ q ∈ lw_privs, lw_okq q := by
  show ∀ q ∈ lw_privs_1 ++ (lw_privs_2 ++ (lw_privs_3 ++ (lw_privs_4 ++ (lw_privs_5 ++ (lw_privs_6))))), lw_okq q
  exact List.forall_mem_append.mpr ⟨lw_r1, List.forall_mem_append.mpr ⟨lw_r2, List.forall_mem_append.mpr ⟨lw_r3, List.forall_mem_append.mpr ⟨lw_r4, List.forall_mem_append.mpr ⟨lw_r5, lw_r6⟩⟩⟩⟩⟩

def RL : String := "SegmentLogLaw"
def RX0 : String := "SegmentLog$Blocks"
def TX0 : u_T := fun k => match k with
  | 0 => ("SegmentLog$Blocks", "bytes", "[B", true)
  | _ => ("SegmentLog$Blocks", "size", "I", false)
def tyX0 : Nat → FieldType := fun k => match k with
  | 0 => .array .byte
  | _ => .int
abbrev wsX00 : List Cond := u_ws RX0 TX0 2
theorem nmX0 : ∀ a, a < 2 → ∀ b, b < 2 → a ≠ b → (TX0 a).2.1 ≠ (TX0 b).2.1 := by decide +kernel
theorem tyX0_ok : ∀ k, k < 2 → parseFieldDescriptor (TX0 k).2.2.1 = some (tyX0 k) := by decide +kernel
abbrev cX0_init : ByteArray := prog_2_method_1_code
def yX0_init : MethodName := ⟨RX0, "<init>", "(I)V"⟩
abbrev cX0_renew : ByteArray := prog_2_method_2_code
def yX0_renew : MethodName := ⟨RX0, "renew", "(I)V"⟩
abbrev cX0_has : ByteArray := prog_2_method_3_code
def yX0_has : MethodName := ⟨RX0, "has", "(II)Z"⟩
abbrev cX0_value : ByteArray := prog_2_method_4_code
def yX0_value : MethodName := ⟨RX0, "value", "(II)I"⟩
abbrev cX0_put : ByteArray := prog_2_method_5_code
def yX0_put : MethodName := ⟨RX0, "put", "(III)V"⟩
abbrev cX0_number : ByteArray := prog_2_method_6_code
def yX0_number : MethodName := ⟨RX0, "number", "(III)J"⟩
abbrev cX0_putNumber : ByteArray := prog_2_method_7_code
def yX0_putNumber : MethodName := ⟨RX0, "putNumber", "(IIIJ)V"⟩
abbrev cX0_wipe : ByteArray := prog_2_method_8_code
def yX0_wipe : MethodName := ⟨RX0, "wipe", "(I)V"⟩
abbrev cX0_sum : ByteArray := prog_2_method_9_code
def yX0_sum : MethodName := ⟨RX0, "sum", "(II)J"⟩
abbrev cX0_isWhole : ByteArray := prog_2_method_10_code
def yX0_isWhole : MethodName := ⟨RX0, "isWhole", "(I)Z"⟩
def RX1 : String := "SegmentLog$Head"
def TX1 : u_T := fun k => match k with
  | 0 => ("SegmentLog$Head", "fields", "[I", true)
  | 1 => ("SegmentLog$Head", "files", "I", false)
  | 2 => ("SegmentLog$Head", "generation", "I", false)
  | _ => ("SegmentLog$Head", "next", "I", false)
def tyX1 : Nat → FieldType := fun k => match k with
  | 0 => .array .int
  | 1 => .int
  | 2 => .int
  | _ => .int
abbrev wsX10 : List Cond := u_ws RX1 TX1 4
theorem nmX1 : ∀ a, a < 4 → ∀ b, b < 4 → a ≠ b → (TX1 a).2.1 ≠ (TX1 b).2.1 := by decide +kernel
theorem tyX1_ok : ∀ k, k < 4 → parseFieldDescriptor (TX1 k).2.2.1 = some (tyX1 k) := by decide +kernel
abbrev cX1_init : ByteArray := prog_3_method_1_code
def yX1_init : MethodName := ⟨RX1, "<init>", "()V"⟩
abbrev cX1_clear : ByteArray := prog_3_method_2_code
def yX1_clear : MethodName := ⟨RX1, "clear", "()V"⟩
abbrev cX1_fieldAt : ByteArray := prog_3_method_3_code
def yX1_fieldAt : MethodName := ⟨RX1, "fieldAt", "(II)I"⟩
abbrev cX1_field : ByteArray := prog_3_method_4_code
def yX1_field : MethodName := ⟨RX1, "field", "(II)I"⟩
abbrev cX1_append : ByteArray := prog_3_method_5_code
def yX1_append : MethodName := ⟨RX1, "append", "(IIII)V"⟩
abbrev cX1_appendAll : ByteArray := prog_3_method_6_code
def yX1_appendAll : MethodName := ⟨RX1, "appendAll", "(LSegmentLog$Head;)V"⟩
abbrev cX1_read : ByteArray := prog_3_method_7_code
def yX1_read : MethodName := ⟨RX1, "read", "(LSegmentLog$Blocks;I)V"⟩
abbrev cX1_inRange : ByteArray := prog_3_method_8_code
def yX1_inRange : MethodName := ⟨RX1, "inRange", "(J)Z"⟩
abbrev cX1_readFiles : ByteArray := prog_3_method_9_code
def yX1_readFiles : MethodName := ⟨RX1, "readFiles", "(LSegmentLog$Blocks;I)Z"⟩
abbrev cX1_overlaps : ByteArray := prog_3_method_10_code
def yX1_overlaps : MethodName := ⟨RX1, "overlaps", "(II)Z"⟩
def RX2 : String := "SegmentLog$Queue"
def TX2 : u_T := fun k => match k with
  | 0 => ("SegmentLog$Queue", "images", "LSegmentLog$Blocks;", true)
  | 1 => ("SegmentLog$Queue", "targets", "[I", true)
  | _ => ("SegmentLog$Queue", "size", "I", false)
def tyX2 : Nat → FieldType := fun k => match k with
  | 0 => .object "SegmentLog$Blocks"
  | 1 => .array .int
  | _ => .int
abbrev wsX20 : List Cond := u_ws RX2 TX2 3
theorem nmX2 : ∀ a, a < 3 → ∀ b, b < 3 → a ≠ b → (TX2 a).2.1 ≠ (TX2 b).2.1 := by decide +kernel
theorem tyX2_ok : ∀ k, k < 3 → parseFieldDescriptor (TX2 k).2.2.1 = some (tyX2 k) := by decide +kernel
abbrev cX2_init : ByteArray := prog_4_method_1_code
def yX2_init : MethodName := ⟨RX2, "<init>", "()V"⟩
abbrev cX2_clear : ByteArray := prog_4_method_2_code
def yX2_clear : MethodName := ⟨RX2, "clear", "()V"⟩
abbrev cX2_bytes : ByteArray := prog_4_method_3_code
def yX2_bytes : MethodName := ⟨RX2, "bytes", "()I"⟩
abbrev cX2_target : ByteArray := prog_4_method_4_code
def yX2_target : MethodName := ⟨RX2, "target", "(I)I"⟩
abbrev cX2_holds : ByteArray := prog_4_method_5_code
def yX2_holds : MethodName := ⟨RX2, "holds", "(I)Z"⟩
abbrev cX2_append : ByteArray := prog_4_method_6_code
def yX2_append : MethodName := ⟨RX2, "append", "(III)I"⟩
abbrev cX2_seal : ByteArray := prog_4_method_7_code
def yX2_seal : MethodName := ⟨RX2, "seal", "(I)V"⟩
abbrev cX2_drain : ByteArray := prog_4_method_8_code
def yX2_drain : MethodName := ⟨RX2, "drain", "(LSegmentLog$Blocks;I)I"⟩
def RX3 : String := "SegmentLog$Table"
def TX3 : u_T := fun k => match k with
  | 0 => ("SegmentLog$Table", "keys", "[J", true)
  | 1 => ("SegmentLog$Table", "values", "[J", true)
  | 2 => ("SegmentLog$Table", "sequences", "[I", true)
  | _ => ("SegmentLog$Table", "size", "I", false)
def tyX3 : Nat → FieldType := fun k => match k with
  | 0 => .array .long
  | 1 => .array .long
  | 2 => .array .int
  | _ => .int
abbrev wsX30 : List Cond := u_ws RX3 TX3 4
theorem nmX3 : ∀ a, a < 4 → ∀ b, b < 4 → a ≠ b → (TX3 a).2.1 ≠ (TX3 b).2.1 := by decide +kernel
theorem tyX3_ok : ∀ k, k < 4 → parseFieldDescriptor (TX3 k).2.2.1 = some (tyX3 k) := by decide +kernel
abbrev cX3_init : ByteArray := prog_5_method_1_code
def yX3_init : MethodName := ⟨RX3, "<init>", "()V"⟩
abbrev cX3_clear : ByteArray := prog_5_method_2_code
def yX3_clear : MethodName := ⟨RX3, "clear", "()V"⟩
abbrev cX3_has : ByteArray := prog_5_method_3_code
def yX3_has : MethodName := ⟨RX3, "has", "(I)Z"⟩
abbrev cX3_key : ByteArray := prog_5_method_4_code
def yX3_key : MethodName := ⟨RX3, "key", "(I)J"⟩
abbrev cX3_value : ByteArray := prog_5_method_5_code
def yX3_value : MethodName := ⟨RX3, "value", "(I)J"⟩
abbrev cX3_sequence : ByteArray := prog_5_method_6_code
def yX3_sequence : MethodName := ⟨RX3, "sequence", "(I)I"⟩
abbrev cX3_insert : ByteArray := prog_5_method_7_code
def yX3_insert : MethodName := ⟨RX3, "insert", "(JJI)V"⟩
abbrev cX3_below : ByteArray := prog_5_method_8_code
def yX3_below : MethodName := ⟨RX3, "below", "(J)I"⟩
abbrev cX3_upTo : ByteArray := prog_5_method_9_code
def yX3_upTo : MethodName := ⟨RX3, "upTo", "(J)I"⟩
abbrev cX3_withSequence : ByteArray := prog_5_method_10_code
def yX3_withSequence : MethodName := ⟨RX3, "withSequence", "(I)I"⟩
abbrev cX3_settle : ByteArray := prog_5_method_11_code
def yX3_settle : MethodName := ⟨RX3, "settle", "()V"⟩
def RX4 : String := "SegmentLog$Uses"
def TX4 : u_T := fun k => match k with
  | 0 => ("SegmentLog$Uses", "uses", "[I", true)
  | _ => ("SegmentLog$Uses", "size", "I", false)
def tyX4 : Nat → FieldType := fun k => match k with
  | 0 => .array .int
  | _ => .int
abbrev wsX40 : List Cond := u_ws RX4 TX4 2
theorem nmX4 : ∀ a, a < 2 → ∀ b, b < 2 → a ≠ b → (TX4 a).2.1 ≠ (TX4 b).2.1 := by decide +kernel
theorem tyX4_ok : ∀ k, k < 2 → parseFieldDescriptor (TX4 k).2.2.1 = some (tyX4 k) := by decide +kernel
abbrev cX4_init : ByteArray := prog_6_method_1_code
def yX4_init : MethodName := ⟨RX4, "<init>", "(I)V"⟩
abbrev cX4_clear : ByteArray := prog_6_method_2_code
def yX4_clear : MethodName := ⟨RX4, "clear", "(I)V"⟩
abbrev cX4_of : ByteArray := prog_6_method_3_code
def yX4_of : MethodName := ⟨RX4, "of", "(I)I"⟩
abbrev cX4_mark : ByteArray := prog_6_method_4_code
def yX4_mark : MethodName := ⟨RX4, "mark", "(III)V"⟩
abbrev cX4_turn : ByteArray := prog_6_method_5_code
def yX4_turn : MethodName := ⟨RX4, "turn", "(II)V"⟩
abbrev cX4_howMany : ByteArray := prog_6_method_6_code
def yX4_howMany : MethodName := ⟨RX4, "howMany", "(I)I"⟩
abbrev cX4_leastFree : ByteArray := prog_6_method_7_code
def yX4_leastFree : MethodName := ⟨RX4, "leastFree", "()I"⟩
abbrev cX4_leastRun : ByteArray := prog_6_method_8_code
def yX4_leastRun : MethodName := ⟨RX4, "leastRun", "(I)I"⟩
def RX5 : String := "SegmentLog"
def TX5 : u_T := fun k => match k with
  | 0 => ("SegmentLog", "disk", "LSegmentLog$Blocks;", true)
  | 1 => ("SegmentLog", "uses", "LSegmentLog$Uses;", true)
  | 2 => ("SegmentLog", "queue", "LSegmentLog$Queue;", true)
  | 3 => ("SegmentLog", "table", "LSegmentLog$Table;", true)
  | 4 => ("SegmentLog", "head", "LSegmentLog$Head;", false)
  | 5 => ("SegmentLog", "spare", "LSegmentLog$Head;", false)
  | 6 => ("SegmentLog", "isOpen", "Z", false)
  | 7 => ("SegmentLog", "next", "I", false)
  | 8 => ("SegmentLog", "waiting", "I", false)
  | 9 => ("SegmentLog", "safe", "I", false)
  | _ => ("SegmentLog", "latestFile", "I", false)
def tyX5 : Nat → FieldType := fun k => match k with
  | 0 => .object "SegmentLog$Blocks"
  | 1 => .object "SegmentLog$Uses"
  | 2 => .object "SegmentLog$Queue"
  | 3 => .object "SegmentLog$Table"
  | 4 => .object "SegmentLog$Head"
  | 5 => .object "SegmentLog$Head"
  | 6 => .boolean
  | 7 => .int
  | 8 => .int
  | 9 => .int
  | _ => .int
abbrev wsX50 : List Cond := u_ws RX5 TX5 11
theorem nmX5 : ∀ a, a < 11 → ∀ b, b < 11 → a ≠ b → (TX5 a).2.1 ≠ (TX5 b).2.1 := by decide +kernel
theorem tyX5_ok : ∀ k, k < 11 → parseFieldDescriptor (TX5 k).2.2.1 = some (tyX5 k) := by decide +kernel
abbrev cX5_init : ByteArray := prog_1_method_1_code
def yX5_init : MethodName := ⟨RX5, "<init>", "()V"⟩
abbrev cX5_format : ByteArray := prog_1_method_2_code
def yX5_format : MethodName := ⟨RX5, "format", "(I)I"⟩
abbrev cX5_add : ByteArray := prog_1_method_3_code
def yX5_add : MethodName := ⟨RX5, "add", "(JJ)I"⟩
abbrev cX5_flush : ByteArray := prog_1_method_4_code
def yX5_flush : MethodName := ⟨RX5, "flush", "()I"⟩
abbrev cX5_sync : ByteArray := prog_1_method_5_code
def yX5_sync : MethodName := ⟨RX5, "sync", "()I"⟩
abbrev cX5_commit : ByteArray := prog_1_method_6_code
def yX5_commit : MethodName := ⟨RX5, "commit", "(I)I"⟩
abbrev cX5_crash : ByteArray := prog_1_method_7_code
def yX5_crash : MethodName := ⟨RX5, "crash", "(I)I"⟩
abbrev cX5_open : ByteArray := prog_1_method_8_code
def yX5_open : MethodName := ⟨RX5, "open", "()I"⟩
abbrev cX5_acknowledged : ByteArray := prog_1_method_9_code
def yX5_acknowledged : MethodName := ⟨RX5, "acknowledged", "()I"⟩
abbrev cX5_get : ByteArray := prog_1_method_10_code
def yX5_get : MethodName := ⟨RX5, "get", "(J)J"⟩
abbrev cX5_times : ByteArray := prog_1_method_11_code
def yX5_times : MethodName := ⟨RX5, "times", "(J)I"⟩
abbrev cX5_record : ByteArray := prog_1_method_12_code
def yX5_record : MethodName := ⟨RX5, "record", "(II)J"⟩
abbrev cX5_file : ByteArray := prog_1_method_13_code
def yX5_file : MethodName := ⟨RX5, "file", "(II)I"⟩
abbrev cX5_use : ByteArray := prog_1_method_14_code
def yX5_use : MethodName := ⟨RX5, "use", "(I)I"⟩
abbrev cX5_octet : ByteArray := prog_1_method_15_code
def yX5_octet : MethodName := ⟨RX5, "octet", "(II)I"⟩
abbrev cX5_poke : ByteArray := prog_1_method_16_code
def yX5_poke : MethodName := ⟨RX5, "poke", "(III)I"⟩
abbrev cX5_bad : ByteArray := prog_1_method_17_code
def yX5_bad : MethodName := ⟨RX5, "bad", "()I"⟩
abbrev cX5_queued : ByteArray := prog_1_method_18_code
def yX5_queued : MethodName := ⟨RX5, "queued", "(I)I"⟩
abbrev cX5_count : ByteArray := prog_1_method_19_code
def yX5_count : MethodName := ⟨RX5, "count", "(I)I"⟩
abbrev cX5_countOpen : ByteArray := prog_1_method_20_code
def yX5_countOpen : MethodName := ⟨RX5, "countOpen", "(I)I"⟩
abbrev cX5_forget : ByteArray := prog_1_method_21_code
def yX5_forget : MethodName := ⟨RX5, "forget", "()V"⟩
abbrev cX5_placeOf : ByteArray := prog_1_method_22_code
def yX5_placeOf : MethodName := ⟨RX5, "placeOf", "(I)I"⟩
abbrev cX5_shouldBeWhole : ByteArray := prog_1_method_23_code
def yX5_shouldBeWhole : MethodName := ⟨RX5, "shouldBeWhole", "(I)Z"⟩
abbrev cX5_blocksFor : ByteArray := prog_1_method_24_code
def yX5_blocksFor : MethodName := ⟨RX5, "blocksFor", "(I)I"⟩
abbrev cX5_recordsAt : ByteArray := prog_1_method_25_code
def yX5_recordsAt : MethodName := ⟨RX5, "recordsAt", "(II)I"⟩
abbrev cX5_queueLog : ByteArray := prog_1_method_26_code
def yX5_queueLog : MethodName := ⟨RX5, "queueLog", "(I)V"⟩
abbrev cX5_queueRecord : ByteArray := prog_1_method_27_code
def yX5_queueRecord : MethodName := ⟨RX5, "queueRecord", "(III)V"⟩
abbrev cX5_planHead : ByteArray := prog_1_method_28_code
def yX5_planHead : MethodName := ⟨RX5, "planHead", "(ZIII)V"⟩
abbrev cX5_queueFile : ByteArray := prog_1_method_29_code
def yX5_queueFile : MethodName := ⟨RX5, "queueFile", "(Z)V"⟩
abbrev cX5_queueHead : ByteArray := prog_1_method_30_code
def yX5_queueHead : MethodName := ⟨RX5, "queueHead", "()V"⟩
abbrev cX5_takePlannedHead : ByteArray := prog_1_method_31_code
def yX5_takePlannedHead : MethodName := ⟨RX5, "takePlannedHead", "(Z)V"⟩
abbrev cX5_swapHeads : ByteArray := prog_1_method_32_code
def yX5_swapHeads : MethodName := ⟨RX5, "swapHeads", "()V"⟩
abbrev cX5_chooseHead : ByteArray := prog_1_method_33_code
def yX5_chooseHead : MethodName := ⟨RX5, "chooseHead", "()V"⟩
abbrev cX5_firstWrongBlock : ByteArray := prog_1_method_34_code
def yX5_firstWrongBlock : MethodName := ⟨RX5, "firstWrongBlock", "()I"⟩
abbrev cX5_isFileBlock : ByteArray := prog_1_method_35_code
def yX5_isFileBlock : MethodName := ⟨RX5, "isFileBlock", "(II)Z"⟩
abbrev cX5_readFile : ByteArray := prog_1_method_36_code
def yX5_readFile : MethodName := ⟨RX5, "readFile", "(I)V"⟩
abbrev cX5_readRecord : ByteArray := prog_1_method_37_code
def yX5_readRecord : MethodName := ⟨RX5, "readRecord", "(III)V"⟩
abbrev cX5_replayLog : ByteArray := prog_1_method_38_code
def yX5_replayLog : MethodName := ⟨RX5, "replayLog", "()V"⟩
abbrev cX5_nextLogBlock : ByteArray := prog_1_method_39_code
def yX5_nextLogBlock : MethodName := ⟨RX5, "nextLogBlock", "()I"⟩
abbrev cX5_readLogBlock : ByteArray := prog_1_method_40_code
def yX5_readLogBlock : MethodName := ⟨RX5, "readLogBlock", "(I)V"⟩
abbrev cX5_wipeOldLog : ByteArray := prog_1_method_41_code
def yX5_wipeOldLog : MethodName := ⟨RX5, "wipeOldLog", "()V"⟩
def RX6 : String := "SegmentLogModel"
def TX6 : u_T := fun k => match k with
  | 0 => ("SegmentLogModel", "blocks", "I", false)
  | 1 => ("SegmentLogModel", "disk", "[B", true)
  | 2 => ("SegmentLogModel", "queued", "I", false)
  | 3 => ("SegmentLogModel", "queue", "[I", true)
  | 4 => ("SegmentLogModel", "written", "[B", true)
  | 5 => ("SegmentLogModel", "at", "I", false)
  | 6 => ("SegmentLogModel", "isOpen", "Z", false)
  | 7 => ("SegmentLogModel", "records", "I", false)
  | 8 => ("SegmentLogModel", "key", "[J", true)
  | 9 => ("SegmentLogModel", "value", "[J", true)
  | 10 => ("SegmentLogModel", "files", "I", false)
  | 11 => ("SegmentLogModel", "fileNumber", "[I", true)
  | 12 => ("SegmentLogModel", "fileFirst", "[I", true)
  | 13 => ("SegmentLogModel", "fileBlocks", "[I", true)
  | 14 => ("SegmentLogModel", "fileRecords", "[I", true)
  | 15 => ("SegmentLogModel", "logs", "I", false)
  | 16 => ("SegmentLogModel", "logBlock", "[I", true)
  | 17 => ("SegmentLogModel", "logRecords", "[I", true)
  | 18 => ("SegmentLogModel", "waiting", "I", false)
  | 19 => ("SegmentLogModel", "generation", "J", false)
  | 20 => ("SegmentLogModel", "next", "J", false)
  | _ => ("SegmentLogModel", "latest", "I", false)
def tyX6 : Nat → FieldType := fun k => match k with
  | 0 => .int
  | 1 => .array .byte
  | 2 => .int
  | 3 => .array .int
  | 4 => .array .byte
  | 5 => .int
  | 6 => .boolean
  | 7 => .int
  | 8 => .array .long
  | 9 => .array .long
  | 10 => .int
  | 11 => .array .int
  | 12 => .array .int
  | 13 => .array .int
  | 14 => .array .int
  | 15 => .int
  | 16 => .array .int
  | 17 => .array .int
  | 18 => .int
  | 19 => .long
  | 20 => .long
  | _ => .int
abbrev wsX60 : List Cond := u_ws RX6 TX6 22
theorem nmX6 : ∀ a, a < 22 → ∀ b, b < 22 → a ≠ b → (TX6 a).2.1 ≠ (TX6 b).2.1 := by decide +kernel
theorem tyX6_ok : ∀ k, k < 22 → parseFieldDescriptor (TX6 k).2.2.1 = some (tyX6 k) := by decide +kernel
abbrev cX6_init : ByteArray := prog_8_method_1_code
def yX6_init : MethodName := ⟨RX6, "<init>", "()V"⟩
abbrev cX6_isIn : ByteArray := prog_8_method_2_code
def yX6_isIn : MethodName := ⟨RX6, "isIn", "(JJJ)Z"⟩
abbrev cX6_sumOf : ByteArray := prog_8_method_3_code
def yX6_sumOf : MethodName := ⟨RX6, "sumOf", "([BII)J"⟩
abbrev cX6_number : ByteArray := prog_8_method_4_code
def yX6_number : MethodName := ⟨RX6, "number", "([BII)J"⟩
abbrev cX6_isWhole : ByteArray := prog_8_method_5_code
def yX6_isWhole : MethodName := ⟨RX6, "isWhole", "(I)Z"⟩
abbrev cX6_begin : ByteArray := prog_8_method_6_code
def yX6_begin : MethodName := ⟨RX6, "begin", "(I)V"⟩
abbrev cX6_put : ByteArray := prog_8_method_7_code
def yX6_put : MethodName := ⟨RX6, "put", "(IJI)V"⟩
abbrev cX6_end : ByteArray := prog_8_method_8_code
def yX6_end : MethodName := ⟨RX6, "end", "()V"⟩
abbrev cX6_pours : ByteArray := prog_8_method_9_code
def yX6_pours : MethodName := ⟨RX6, "pours", "(J)I"⟩
abbrev cX6_forget : ByteArray := prog_8_method_10_code
def yX6_forget : MethodName := ⟨RX6, "forget", "()V"⟩
abbrev cX6_format : ByteArray := prog_8_method_11_code
def yX6_format : MethodName := ⟨RX6, "format", "(I)I"⟩
abbrev cX6_isOfFiles : ByteArray := prog_8_method_12_code
def yX6_isOfFiles : MethodName := ⟨RX6, "isOfFiles", "(I)Z"⟩
abbrev cX6_useOf : ByteArray := prog_8_method_13_code
def yX6_useOf : MethodName := ⟨RX6, "useOf", "(I)I"⟩
abbrev cX6_free : ByteArray := prog_8_method_14_code
def yX6_free : MethodName := ⟨RX6, "free", "(I)I"⟩
abbrev cX6_inFiles : ByteArray := prog_8_method_15_code
def yX6_inFiles : MethodName := ⟨RX6, "inFiles", "()I"⟩
abbrev cX6_writesLog : ByteArray := prog_8_method_16_code
def yX6_writesLog : MethodName := ⟨RX6, "writesLog", "()Z"⟩
abbrev cX6_add : ByteArray := prog_8_method_17_code
def yX6_add : MethodName := ⟨RX6, "add", "(JJ)I"⟩
abbrev cX6_flush : ByteArray := prog_8_method_18_code
def yX6_flush : MethodName := ⟨RX6, "flush", "()I"⟩
abbrev cX6_sync : ByteArray := prog_8_method_19_code
def yX6_sync : MethodName := ⟨RX6, "sync", "()I"⟩
abbrev cX6_sort : ByteArray := prog_8_method_20_code
def yX6_sort : MethodName := ⟨RX6, "sort", "(I)V"⟩
abbrev cX6_commit : ByteArray := prog_8_method_21_code
def yX6_commit : MethodName := ⟨RX6, "commit", "(I)I"⟩
abbrev cX6_writesFile : ByteArray := prog_8_method_22_code
def yX6_writesFile : MethodName := ⟨RX6, "writesFile", "(IIIII)V"⟩
abbrev cX6_writesHead : ByteArray := prog_8_method_23_code
def yX6_writesHead : MethodName := ⟨RX6, "writesHead", "(I)V"⟩
abbrev cX6_closes : ByteArray := prog_8_method_24_code
def yX6_closes : MethodName := ⟨RX6, "closes", "()V"⟩
abbrev cX6_crash : ByteArray := prog_8_method_25_code
def yX6_crash : MethodName := ⟨RX6, "crash", "(I)I"⟩
abbrev cX6_isHead : ByteArray := prog_8_method_26_code
def yX6_isHead : MethodName := ⟨RX6, "isHead", "(I)Z"⟩
abbrev cX6_isFile : ByteArray := prog_8_method_27_code
def yX6_isFile : MethodName := ⟨RX6, "isFile", "(III)Z"⟩
abbrev cX6_reads : ByteArray := prog_8_method_28_code
def yX6_reads : MethodName := ⟨RX6, "reads", "(II)V"⟩
abbrev cX6_isFileBlock : ByteArray := prog_8_method_29_code
def yX6_isFileBlock : MethodName := ⟨RX6, "isFileBlock", "(II)Z"⟩
abbrev cX6_open : ByteArray := prog_8_method_30_code
def yX6_open : MethodName := ⟨RX6, "open", "()I"⟩
abbrev cX6_readsFiles : ByteArray := prog_8_method_31_code
def yX6_readsFiles : MethodName := ⟨RX6, "readsFiles", "(I)I"⟩
abbrev cX6_isLog : ByteArray := prog_8_method_32_code
def yX6_isLog : MethodName := ⟨RX6, "isLog", "(I)Z"⟩
abbrev cX6_readsLogs : ByteArray := prog_8_method_33_code
def yX6_readsLogs : MethodName := ⟨RX6, "readsLogs", "()V"⟩
abbrev cX6_isQueued : ByteArray := prog_8_method_34_code
def yX6_isQueued : MethodName := ⟨RX6, "isQueued", "(I)Z"⟩
abbrev cX6_acknowledged : ByteArray := prog_8_method_35_code
def yX6_acknowledged : MethodName := ⟨RX6, "acknowledged", "()I"⟩
abbrev cX6_get : ByteArray := prog_8_method_36_code
def yX6_get : MethodName := ⟨RX6, "get", "(J)J"⟩
abbrev cX6_times : ByteArray := prog_8_method_37_code
def yX6_times : MethodName := ⟨RX6, "times", "(J)I"⟩
abbrev cX6_record : ByteArray := prog_8_method_38_code
def yX6_record : MethodName := ⟨RX6, "record", "(II)J"⟩
abbrev cX6_file : ByteArray := prog_8_method_39_code
def yX6_file : MethodName := ⟨RX6, "file", "(II)I"⟩
abbrev cX6_use : ByteArray := prog_8_method_40_code
def yX6_use : MethodName := ⟨RX6, "use", "(I)I"⟩
abbrev cX6_octet : ByteArray := prog_8_method_41_code
def yX6_octet : MethodName := ⟨RX6, "octet", "(II)I"⟩
abbrev cX6_poke : ByteArray := prog_8_method_42_code
def yX6_poke : MethodName := ⟨RX6, "poke", "(III)I"⟩
abbrev cX6_bad : ByteArray := prog_8_method_43_code
def yX6_bad : MethodName := ⟨RX6, "bad", "()I"⟩
abbrev cX6_queued : ByteArray := prog_8_method_44_code
def yX6_queued : MethodName := ⟨RX6, "queued", "(I)I"⟩
abbrev cX6_count : ByteArray := prog_8_method_45_code
def yX6_count : MethodName := ⟨RX6, "count", "(I)I"⟩
abbrev vwCl : List vw_C := [(RX0, TX0, 2), (RX1, TX1, 4), (RX2, TX2, 3), (RX3, TX3, 4), (RX4, TX4, 2), (RX5, TX5, 11), (RX6, TX6, 22)]
def TB : List Cond := lw_tbl.filter goodWord
theorem tbX {w : Cond} (i : Nat) (h : lw_tbl[i]? = some w) (hg : goodWord w = true) : w ∈ TB := List.mem_filter.mpr ⟨List.mem_of_getElem? h, hg⟩
theorem tb_good {w : Cond} (h : w ∈ TB) : (w.onTables && w.keeps) = true ∨ ∃ ty, w = .arrayClass ty := good_of_word (List.mem_filter.mp h).2
theorem tbG {c b : Cond} (hb : b ∈ TB) : GoodIn (c :: TB) (b :: TB) := fun w hw => (List.mem_cons.mp hw).elim (fun e => e ▸ ⟨List.mem_cons_of_mem _ hb, tb_good hb⟩) (fun h => ⟨List.mem_cons_of_mem _ h, tb_good h⟩)
theorem tbA {c : Cond} {l ws : List Cond} (h : ∀ w ∈ l, w ∈ TB) (hG : GoodIn (c :: TB) ws) : GoodIn (c :: TB) (l ++ ws) := fun w hw => (List.mem_append.mp hw).elim (fun e => ⟨List.mem_cons_of_mem _ (h w e), tb_good (h w e)⟩) (hG w)
theorem tbV {c b : Cond} {own : String} {idx : Nat} {C : String} {y : MethodName} (h1 : .methodLink own idx y ∈ TB) (h2 : .instanceMethod y ∈ TB) (h3 : .selects C y y ∈ TB) (h4 : .initialized C ∈ TB) (hb : b ∈ TB) : GoodIn (c :: TB) (wsV own idx C y (b :: TB)) := tbA (fun w hw => by
  rcases List.mem_cons.mp hw with rfl | hw
  · exact h1
  rcases List.mem_cons.mp hw with rfl | hw
  · exact h2
  rcases List.mem_cons.mp hw with rfl | hw
  · exact h3
  rcases List.mem_cons.mp hw with rfl | hw
  · exact h4
  · cases hw) (tbG hb)
theorem tbS {c b : Cond} {own : String} {idx : Nat} {y : MethodName} (h1 : .methodLink own idx y ∈ TB) (h2 : .static y ∈ TB) (h4 : .initialized y.cls ∈ TB) (hb : b ∈ TB) : GoodIn (c :: TB) (va_wsS own idx y (b :: TB)) := tbA (fun w hw => by
  rcases List.mem_cons.mp hw with rfl | hw
  · exact h1
  rcases List.mem_cons.mp hw with rfl | hw
  · exact h2
  rcases List.mem_cons.mp hw with rfl | hw
  · exact h4
  · cases hw) (tbG hb)
theorem inX0 : ∀ w ∈ wsX00, w ∈ TB := fun w h => List.mem_filter.mpr ⟨(by decide +kernel : ∀ w ∈ wsX00, w ∈ lw_tbl) w h, (by decide +kernel : ∀ w ∈ wsX00, goodWord w = true) w h⟩
theorem inX1 : ∀ w ∈ wsX10, w ∈ TB := fun w h => List.mem_filter.mpr ⟨(by decide +kernel : ∀ w ∈ wsX10, w ∈ lw_tbl) w h, (by decide +kernel : ∀ w ∈ wsX10, goodWord w = true) w h⟩
theorem inX2 : ∀ w ∈ wsX20, w ∈ TB := fun w h => List.mem_filter.mpr ⟨(by decide +kernel : ∀ w ∈ wsX20, w ∈ lw_tbl) w h, (by decide +kernel : ∀ w ∈ wsX20, goodWord w = true) w h⟩
theorem inX3 : ∀ w ∈ wsX30, w ∈ TB := fun w h => List.mem_filter.mpr ⟨(by decide +kernel : ∀ w ∈ wsX30, w ∈ lw_tbl) w h, (by decide +kernel : ∀ w ∈ wsX30, goodWord w = true) w h⟩
theorem inX4 : ∀ w ∈ wsX40, w ∈ TB := fun w h => List.mem_filter.mpr ⟨(by decide +kernel : ∀ w ∈ wsX40, w ∈ lw_tbl) w h, (by decide +kernel : ∀ w ∈ wsX40, goodWord w = true) w h⟩
theorem inX5 : ∀ w ∈ wsX50, w ∈ TB := fun w h => List.mem_filter.mpr ⟨(by decide +kernel : ∀ w ∈ wsX50, w ∈ lw_tbl) w h, (by decide +kernel : ∀ w ∈ wsX50, goodWord w = true) w h⟩
theorem inX6 : ∀ w ∈ wsX60, w ∈ TB := fun w h => List.mem_filter.mpr ⟨(by decide +kernel : ∀ w ∈ wsX60, w ∈ lw_tbl) w h, (by decide +kernel : ∀ w ∈ wsX60, goodWord w = true) w h⟩
