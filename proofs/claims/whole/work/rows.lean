section
-- ===== PART A: goes FIRST, ahead of the names: the tables' words, and 'selects' of the private methods out of them =====
/-- a private method of a class that the tables say can be made, by its rows of tables_1 -/
def lw_okq (q : MethodName × Nat) : Prop := (q.1.cls ≠ "java/lang/invoke/MethodHandle" ∧ q.1.cls ≠ "java/lang/invoke/VarHandle") ∧ Cond.instantiable q.1.cls q.2 ∈ tables_1 ∧ Cond.privateMethod q.1 ∈ tables_1 ∧ Cond.instanceMethod q.1 ∈ tables_1
theorem lw_p0 : lw_okq (⟨"SegmentLog$Uses", "clear", "(I)V"⟩, 2) := ⟨⟨by decide +kernel, by decide +kernel⟩, List.mem_of_getElem? (i := 34) (by decide +kernel), List.mem_of_getElem? (i := 40) (by decide +kernel), List.mem_of_getElem? (i := 41) (by decide +kernel)⟩
theorem lw_p1 : lw_okq (⟨"SegmentLog$Uses", "mark", "(III)V"⟩, 2) := ⟨⟨by decide +kernel, by decide +kernel⟩, List.mem_of_getElem? (i := 34) (by decide +kernel), List.mem_of_getElem? (i := 47) (by decide +kernel), List.mem_of_getElem? (i := 48) (by decide +kernel)⟩
theorem lw_p2 : lw_okq (⟨"SegmentLog$Head", "clear", "()V"⟩, 4) := ⟨⟨by decide +kernel, by decide +kernel⟩, List.mem_of_getElem? (i := 100) (by decide +kernel), List.mem_of_getElem? (i := 106) (by decide +kernel), List.mem_of_getElem? (i := 107) (by decide +kernel)⟩
theorem lw_p3 : lw_okq (⟨"SegmentLog$Blocks", "renew", "(I)V"⟩, 2) := ⟨⟨by decide +kernel, by decide +kernel⟩, List.mem_of_getElem? (i := 18) (by decide +kernel), List.mem_of_getElem? (i := 164) (by decide +kernel), List.mem_of_getElem? (i := 165) (by decide +kernel)⟩
theorem lw_p4 : lw_okq (⟨"SegmentLog$Blocks", "wipe", "(I)V"⟩, 2) := ⟨⟨by decide +kernel, by decide +kernel⟩, List.mem_of_getElem? (i := 18) (by decide +kernel), List.mem_of_getElem? (i := 168) (by decide +kernel), List.mem_of_getElem? (i := 169) (by decide +kernel)⟩
theorem lw_p5 : lw_okq (⟨"SegmentLog$Blocks", "put", "(III)V"⟩, 2) := ⟨⟨by decide +kernel, by decide +kernel⟩, List.mem_of_getElem? (i := 18) (by decide +kernel), List.mem_of_getElem? (i := 172) (by decide +kernel), List.mem_of_getElem? (i := 173) (by decide +kernel)⟩
theorem lw_p6 : lw_okq (⟨"SegmentLog$Blocks", "has", "(II)Z"⟩, 2) := ⟨⟨by decide +kernel, by decide +kernel⟩, List.mem_of_getElem? (i := 18) (by decide +kernel), List.mem_of_getElem? (i := 176) (by decide +kernel), List.mem_of_getElem? (i := 177) (by decide +kernel)⟩
theorem lw_p7 : lw_okq (⟨"SegmentLog", "forget", "()V"⟩, 11) := ⟨⟨by decide +kernel, by decide +kernel⟩, List.mem_of_getElem? (i := 10) (by decide +kernel), List.mem_of_getElem? (i := 181) (by decide +kernel), List.mem_of_getElem? (i := 182) (by decide +kernel)⟩
theorem lw_p8 : lw_okq (⟨"SegmentLog$Queue", "clear", "()V"⟩, 3) := ⟨⟨by decide +kernel, by decide +kernel⟩, List.mem_of_getElem? (i := 59) (by decide +kernel), List.mem_of_getElem? (i := 186) (by decide +kernel), List.mem_of_getElem? (i := 187) (by decide +kernel)⟩
theorem lw_p9 : lw_okq (⟨"SegmentLog$Table", "clear", "()V"⟩, 4) := ⟨⟨by decide +kernel, by decide +kernel⟩, List.mem_of_getElem? (i := 79) (by decide +kernel), List.mem_of_getElem? (i := 190) (by decide +kernel), List.mem_of_getElem? (i := 191) (by decide +kernel)⟩
theorem lw_p10 : lw_okq (⟨"SegmentLog$Uses", "leastFree", "()I"⟩, 2) := ⟨⟨by decide +kernel, by decide +kernel⟩, List.mem_of_getElem? (i := 34) (by decide +kernel), List.mem_of_getElem? (i := 198) (by decide +kernel), List.mem_of_getElem? (i := 199) (by decide +kernel)⟩
theorem lw_p11 : lw_okq (⟨"SegmentLog$Uses", "leastRun", "(I)I"⟩, 2) := ⟨⟨by decide +kernel, by decide +kernel⟩, List.mem_of_getElem? (i := 34) (by decide +kernel), List.mem_of_getElem? (i := 202) (by decide +kernel), List.mem_of_getElem? (i := 203) (by decide +kernel)⟩
theorem lw_p12 : lw_okq (⟨"SegmentLog$Table", "insert", "(JJI)V"⟩, 4) := ⟨⟨by decide +kernel, by decide +kernel⟩, List.mem_of_getElem? (i := 79) (by decide +kernel), List.mem_of_getElem? (i := 206) (by decide +kernel), List.mem_of_getElem? (i := 207) (by decide +kernel)⟩
theorem lw_p13 : lw_okq (⟨"SegmentLog$Table", "upTo", "(J)I"⟩, 4) := ⟨⟨by decide +kernel, by decide +kernel⟩, List.mem_of_getElem? (i := 79) (by decide +kernel), List.mem_of_getElem? (i := 210) (by decide +kernel), List.mem_of_getElem? (i := 211) (by decide +kernel)⟩
theorem lw_p14 : lw_okq (⟨"SegmentLog", "queueLog", "(I)V"⟩, 11) := ⟨⟨by decide +kernel, by decide +kernel⟩, List.mem_of_getElem? (i := 10) (by decide +kernel), List.mem_of_getElem? (i := 214) (by decide +kernel), List.mem_of_getElem? (i := 215) (by decide +kernel)⟩
theorem lw_p15 : lw_okq (⟨"SegmentLog$Queue", "append", "(III)I"⟩, 3) := ⟨⟨by decide +kernel, by decide +kernel⟩, List.mem_of_getElem? (i := 59) (by decide +kernel), List.mem_of_getElem? (i := 218) (by decide +kernel), List.mem_of_getElem? (i := 219) (by decide +kernel)⟩
def lw_privs_1 : List (MethodName × Nat) := [(⟨"SegmentLog$Uses", "clear", "(I)V"⟩, 2), (⟨"SegmentLog$Uses", "mark", "(III)V"⟩, 2), (⟨"SegmentLog$Head", "clear", "()V"⟩, 4), (⟨"SegmentLog$Blocks", "renew", "(I)V"⟩, 2), (⟨"SegmentLog$Blocks", "wipe", "(I)V"⟩, 2), (⟨"SegmentLog$Blocks", "put", "(III)V"⟩, 2), (⟨"SegmentLog$Blocks", "has", "(II)Z"⟩, 2), (⟨"SegmentLog", "forget", "()V"⟩, 11), (⟨"SegmentLog$Queue", "clear", "()V"⟩, 3), (⟨"SegmentLog$Table", "clear", "()V"⟩, 4), (⟨"SegmentLog$Uses", "leastFree", "()I"⟩, 2), (⟨"SegmentLog$Uses", "leastRun", "(I)I"⟩, 2), (⟨"SegmentLog$Table", "insert", "(JJI)V"⟩, 4), (⟨"SegmentLog$Table", "upTo", "(J)I"⟩, 4), (⟨"SegmentLog", "queueLog", "(I)V"⟩, 11), (⟨"SegmentLog$Queue", "append", "(III)I"⟩, 3)]
theorem lw_r1 : ∀ q ∈ lw_privs_1, lw_okq q := List.forall_mem_cons.mpr ⟨lw_p0, List.forall_mem_cons.mpr ⟨lw_p1, List.forall_mem_cons.mpr ⟨lw_p2, List.forall_mem_cons.mpr ⟨lw_p3, List.forall_mem_cons.mpr ⟨lw_p4, List.forall_mem_cons.mpr ⟨lw_p5, List.forall_mem_cons.mpr ⟨lw_p6, List.forall_mem_cons.mpr ⟨lw_p7, List.forall_mem_cons.mpr ⟨lw_p8, List.forall_mem_cons.mpr ⟨lw_p9, List.forall_mem_cons.mpr ⟨lw_p10, List.forall_mem_cons.mpr ⟨lw_p11, List.forall_mem_cons.mpr ⟨lw_p12, List.forall_mem_cons.mpr ⟨lw_p13, List.forall_mem_cons.mpr ⟨lw_p14, List.forall_mem_cons.mpr ⟨lw_p15, fun _ h => absurd h List.not_mem_nil⟩⟩⟩⟩⟩⟩⟩⟩⟩⟩⟩⟩⟩⟩⟩⟩
theorem lw_p16 : lw_okq (⟨"SegmentLog$Blocks", "putNumber", "(IIIJ)V"⟩, 2) := ⟨⟨by decide +kernel, by decide +kernel⟩, List.mem_of_getElem? (i := 18) (by decide +kernel), List.mem_of_getElem? (i := 224) (by decide +kernel), List.mem_of_getElem? (i := 225) (by decide +kernel)⟩
theorem lw_p17 : lw_okq (⟨"SegmentLog$Table", "withSequence", "(I)I"⟩, 4) := ⟨⟨by decide +kernel, by decide +kernel⟩, List.mem_of_getElem? (i := 79) (by decide +kernel), List.mem_of_getElem? (i := 229) (by decide +kernel), List.mem_of_getElem? (i := 230) (by decide +kernel)⟩
theorem lw_p18 : lw_okq (⟨"SegmentLog", "queueRecord", "(III)V"⟩, 11) := ⟨⟨by decide +kernel, by decide +kernel⟩, List.mem_of_getElem? (i := 10) (by decide +kernel), List.mem_of_getElem? (i := 233) (by decide +kernel), List.mem_of_getElem? (i := 234) (by decide +kernel)⟩
theorem lw_p19 : lw_okq (⟨"SegmentLog$Table", "key", "(I)J"⟩, 4) := ⟨⟨by decide +kernel, by decide +kernel⟩, List.mem_of_getElem? (i := 79) (by decide +kernel), List.mem_of_getElem? (i := 237) (by decide +kernel), List.mem_of_getElem? (i := 238) (by decide +kernel)⟩
theorem lw_p20 : lw_okq (⟨"SegmentLog$Table", "has", "(I)Z"⟩, 4) := ⟨⟨by decide +kernel, by decide +kernel⟩, List.mem_of_getElem? (i := 79) (by decide +kernel), List.mem_of_getElem? (i := 241) (by decide +kernel), List.mem_of_getElem? (i := 242) (by decide +kernel)⟩
theorem lw_p21 : lw_okq (⟨"SegmentLog$Table", "value", "(I)J"⟩, 4) := ⟨⟨by decide +kernel, by decide +kernel⟩, List.mem_of_getElem? (i := 79) (by decide +kernel), List.mem_of_getElem? (i := 245) (by decide +kernel), List.mem_of_getElem? (i := 246) (by decide +kernel)⟩
theorem lw_p22 : lw_okq (⟨"SegmentLog$Queue", "seal", "(I)V"⟩, 3) := ⟨⟨by decide +kernel, by decide +kernel⟩, List.mem_of_getElem? (i := 59) (by decide +kernel), List.mem_of_getElem? (i := 249) (by decide +kernel), List.mem_of_getElem? (i := 250) (by decide +kernel)⟩
theorem lw_p23 : lw_okq (⟨"SegmentLog$Queue", "target", "(I)I"⟩, 3) := ⟨⟨by decide +kernel, by decide +kernel⟩, List.mem_of_getElem? (i := 59) (by decide +kernel), List.mem_of_getElem? (i := 253) (by decide +kernel), List.mem_of_getElem? (i := 254) (by decide +kernel)⟩
theorem lw_p24 : lw_okq (⟨"SegmentLog$Blocks", "sum", "(II)J"⟩, 2) := ⟨⟨by decide +kernel, by decide +kernel⟩, List.mem_of_getElem? (i := 18) (by decide +kernel), List.mem_of_getElem? (i := 257) (by decide +kernel), List.mem_of_getElem? (i := 258) (by decide +kernel)⟩
theorem lw_p25 : lw_okq (⟨"SegmentLog$Blocks", "value", "(II)I"⟩, 2) := ⟨⟨by decide +kernel, by decide +kernel⟩, List.mem_of_getElem? (i := 18) (by decide +kernel), List.mem_of_getElem? (i := 261) (by decide +kernel), List.mem_of_getElem? (i := 262) (by decide +kernel)⟩
theorem lw_p26 : lw_okq (⟨"SegmentLog$Queue", "bytes", "()I"⟩, 3) := ⟨⟨by decide +kernel, by decide +kernel⟩, List.mem_of_getElem? (i := 59) (by decide +kernel), List.mem_of_getElem? (i := 276) (by decide +kernel), List.mem_of_getElem? (i := 277) (by decide +kernel)⟩
theorem lw_p27 : lw_okq (⟨"SegmentLog$Queue", "drain", "(LSegmentLog$Blocks;I)I"⟩, 3) := ⟨⟨by decide +kernel, by decide +kernel⟩, List.mem_of_getElem? (i := 59) (by decide +kernel), List.mem_of_getElem? (i := 280) (by decide +kernel), List.mem_of_getElem? (i := 281) (by decide +kernel)⟩
theorem lw_p28 : lw_okq (⟨"SegmentLog", "planHead", "(ZIII)V"⟩, 11) := ⟨⟨by decide +kernel, by decide +kernel⟩, List.mem_of_getElem? (i := 10) (by decide +kernel), List.mem_of_getElem? (i := 295) (by decide +kernel), List.mem_of_getElem? (i := 296) (by decide +kernel)⟩
theorem lw_p29 : lw_okq (⟨"SegmentLog$Head", "appendAll", "(LSegmentLog$Head;)V"⟩, 4) := ⟨⟨by decide +kernel, by decide +kernel⟩, List.mem_of_getElem? (i := 100) (by decide +kernel), List.mem_of_getElem? (i := 299) (by decide +kernel), List.mem_of_getElem? (i := 300) (by decide +kernel)⟩
theorem lw_p30 : lw_okq (⟨"SegmentLog$Head", "field", "(II)I"⟩, 4) := ⟨⟨by decide +kernel, by decide +kernel⟩, List.mem_of_getElem? (i := 100) (by decide +kernel), List.mem_of_getElem? (i := 303) (by decide +kernel), List.mem_of_getElem? (i := 304) (by decide +kernel)⟩
theorem lw_p31 : lw_okq (⟨"SegmentLog$Head", "append", "(IIII)V"⟩, 4) := ⟨⟨by decide +kernel, by decide +kernel⟩, List.mem_of_getElem? (i := 100) (by decide +kernel), List.mem_of_getElem? (i := 307) (by decide +kernel), List.mem_of_getElem? (i := 308) (by decide +kernel)⟩
def lw_privs_2 : List (MethodName × Nat) := [(⟨"SegmentLog$Blocks", "putNumber", "(IIIJ)V"⟩, 2), (⟨"SegmentLog$Table", "withSequence", "(I)I"⟩, 4), (⟨"SegmentLog", "queueRecord", "(III)V"⟩, 11), (⟨"SegmentLog$Table", "key", "(I)J"⟩, 4), (⟨"SegmentLog$Table", "has", "(I)Z"⟩, 4), (⟨"SegmentLog$Table", "value", "(I)J"⟩, 4), (⟨"SegmentLog$Queue", "seal", "(I)V"⟩, 3), (⟨"SegmentLog$Queue", "target", "(I)I"⟩, 3), (⟨"SegmentLog$Blocks", "sum", "(II)J"⟩, 2), (⟨"SegmentLog$Blocks", "value", "(II)I"⟩, 2), (⟨"SegmentLog$Queue", "bytes", "()I"⟩, 3), (⟨"SegmentLog$Queue", "drain", "(LSegmentLog$Blocks;I)I"⟩, 3), (⟨"SegmentLog", "planHead", "(ZIII)V"⟩, 11), (⟨"SegmentLog$Head", "appendAll", "(LSegmentLog$Head;)V"⟩, 4), (⟨"SegmentLog$Head", "field", "(II)I"⟩, 4), (⟨"SegmentLog$Head", "append", "(IIII)V"⟩, 4)]
theorem lw_r2 : ∀ q ∈ lw_privs_2, lw_okq q := List.forall_mem_cons.mpr ⟨lw_p16, List.forall_mem_cons.mpr ⟨lw_p17, List.forall_mem_cons.mpr ⟨lw_p18, List.forall_mem_cons.mpr ⟨lw_p19, List.forall_mem_cons.mpr ⟨lw_p20, List.forall_mem_cons.mpr ⟨lw_p21, List.forall_mem_cons.mpr ⟨lw_p22, List.forall_mem_cons.mpr ⟨lw_p23, List.forall_mem_cons.mpr ⟨lw_p24, List.forall_mem_cons.mpr ⟨lw_p25, List.forall_mem_cons.mpr ⟨lw_p26, List.forall_mem_cons.mpr ⟨lw_p27, List.forall_mem_cons.mpr ⟨lw_p28, List.forall_mem_cons.mpr ⟨lw_p29, List.forall_mem_cons.mpr ⟨lw_p30, List.forall_mem_cons.mpr ⟨lw_p31, fun _ h => absurd h List.not_mem_nil⟩⟩⟩⟩⟩⟩⟩⟩⟩⟩⟩⟩⟩⟩⟩⟩
theorem lw_p32 : lw_okq (⟨"SegmentLog", "queueFile", "(Z)V"⟩, 11) := ⟨⟨by decide +kernel, by decide +kernel⟩, List.mem_of_getElem? (i := 10) (by decide +kernel), List.mem_of_getElem? (i := 312) (by decide +kernel), List.mem_of_getElem? (i := 313) (by decide +kernel)⟩
theorem lw_p33 : lw_okq (⟨"SegmentLog$Table", "sequence", "(I)I"⟩, 4) := ⟨⟨by decide +kernel, by decide +kernel⟩, List.mem_of_getElem? (i := 79) (by decide +kernel), List.mem_of_getElem? (i := 321) (by decide +kernel), List.mem_of_getElem? (i := 322) (by decide +kernel)⟩
theorem lw_p34 : lw_okq (⟨"SegmentLog", "queueHead", "()V"⟩, 11) := ⟨⟨by decide +kernel, by decide +kernel⟩, List.mem_of_getElem? (i := 10) (by decide +kernel), List.mem_of_getElem? (i := 325) (by decide +kernel), List.mem_of_getElem? (i := 326) (by decide +kernel)⟩
theorem lw_p35 : lw_okq (⟨"SegmentLog", "takePlannedHead", "(Z)V"⟩, 11) := ⟨⟨by decide +kernel, by decide +kernel⟩, List.mem_of_getElem? (i := 10) (by decide +kernel), List.mem_of_getElem? (i := 332) (by decide +kernel), List.mem_of_getElem? (i := 333) (by decide +kernel)⟩
theorem lw_p36 : lw_okq (⟨"SegmentLog", "swapHeads", "()V"⟩, 11) := ⟨⟨by decide +kernel, by decide +kernel⟩, List.mem_of_getElem? (i := 10) (by decide +kernel), List.mem_of_getElem? (i := 336) (by decide +kernel), List.mem_of_getElem? (i := 337) (by decide +kernel)⟩
theorem lw_p37 : lw_okq (⟨"SegmentLog$Uses", "turn", "(II)V"⟩, 2) := ⟨⟨by decide +kernel, by decide +kernel⟩, List.mem_of_getElem? (i := 34) (by decide +kernel), List.mem_of_getElem? (i := 340) (by decide +kernel), List.mem_of_getElem? (i := 341) (by decide +kernel)⟩
theorem lw_p38 : lw_okq (⟨"SegmentLog$Table", "settle", "()V"⟩, 4) := ⟨⟨by decide +kernel, by decide +kernel⟩, List.mem_of_getElem? (i := 79) (by decide +kernel), List.mem_of_getElem? (i := 344) (by decide +kernel), List.mem_of_getElem? (i := 345) (by decide +kernel)⟩
theorem lw_p39 : lw_okq (⟨"SegmentLog", "chooseHead", "()V"⟩, 11) := ⟨⟨by decide +kernel, by decide +kernel⟩, List.mem_of_getElem? (i := 10) (by decide +kernel), List.mem_of_getElem? (i := 356) (by decide +kernel), List.mem_of_getElem? (i := 357) (by decide +kernel)⟩
theorem lw_p40 : lw_okq (⟨"SegmentLog$Head", "read", "(LSegmentLog$Blocks;I)V"⟩, 4) := ⟨⟨by decide +kernel, by decide +kernel⟩, List.mem_of_getElem? (i := 100) (by decide +kernel), List.mem_of_getElem? (i := 360) (by decide +kernel), List.mem_of_getElem? (i := 361) (by decide +kernel)⟩
theorem lw_p41 : lw_okq (⟨"SegmentLog$Blocks", "isWhole", "(I)Z"⟩, 2) := ⟨⟨by decide +kernel, by decide +kernel⟩, List.mem_of_getElem? (i := 18) (by decide +kernel), List.mem_of_getElem? (i := 364) (by decide +kernel), List.mem_of_getElem? (i := 365) (by decide +kernel)⟩
theorem lw_p42 : lw_okq (⟨"SegmentLog$Blocks", "number", "(III)J"⟩, 2) := ⟨⟨by decide +kernel, by decide +kernel⟩, List.mem_of_getElem? (i := 18) (by decide +kernel), List.mem_of_getElem? (i := 368) (by decide +kernel), List.mem_of_getElem? (i := 369) (by decide +kernel)⟩
theorem lw_p43 : lw_okq (⟨"SegmentLog$Head", "readFiles", "(LSegmentLog$Blocks;I)Z"⟩, 4) := ⟨⟨by decide +kernel, by decide +kernel⟩, List.mem_of_getElem? (i := 100) (by decide +kernel), List.mem_of_getElem? (i := 380) (by decide +kernel), List.mem_of_getElem? (i := 381) (by decide +kernel)⟩
theorem lw_p44 : lw_okq (⟨"SegmentLog$Head", "overlaps", "(II)Z"⟩, 4) := ⟨⟨by decide +kernel, by decide +kernel⟩, List.mem_of_getElem? (i := 100) (by decide +kernel), List.mem_of_getElem? (i := 386) (by decide +kernel), List.mem_of_getElem? (i := 387) (by decide +kernel)⟩
theorem lw_p45 : lw_okq (⟨"SegmentLog", "firstWrongBlock", "()I"⟩, 11) := ⟨⟨by decide +kernel, by decide +kernel⟩, List.mem_of_getElem? (i := 10) (by decide +kernel), List.mem_of_getElem? (i := 390) (by decide +kernel), List.mem_of_getElem? (i := 391) (by decide +kernel)⟩
theorem lw_p46 : lw_okq (⟨"SegmentLog", "isFileBlock", "(II)Z"⟩, 11) := ⟨⟨by decide +kernel, by decide +kernel⟩, List.mem_of_getElem? (i := 10) (by decide +kernel), List.mem_of_getElem? (i := 394) (by decide +kernel), List.mem_of_getElem? (i := 395) (by decide +kernel)⟩
theorem lw_p47 : lw_okq (⟨"SegmentLog", "readFile", "(I)V"⟩, 11) := ⟨⟨by decide +kernel, by decide +kernel⟩, List.mem_of_getElem? (i := 10) (by decide +kernel), List.mem_of_getElem? (i := 401) (by decide +kernel), List.mem_of_getElem? (i := 402) (by decide +kernel)⟩
def lw_privs_3 : List (MethodName × Nat) := [(⟨"SegmentLog", "queueFile", "(Z)V"⟩, 11), (⟨"SegmentLog$Table", "sequence", "(I)I"⟩, 4), (⟨"SegmentLog", "queueHead", "()V"⟩, 11), (⟨"SegmentLog", "takePlannedHead", "(Z)V"⟩, 11), (⟨"SegmentLog", "swapHeads", "()V"⟩, 11), (⟨"SegmentLog$Uses", "turn", "(II)V"⟩, 2), (⟨"SegmentLog$Table", "settle", "()V"⟩, 4), (⟨"SegmentLog", "chooseHead", "()V"⟩, 11), (⟨"SegmentLog$Head", "read", "(LSegmentLog$Blocks;I)V"⟩, 4), (⟨"SegmentLog$Blocks", "isWhole", "(I)Z"⟩, 2), (⟨"SegmentLog$Blocks", "number", "(III)J"⟩, 2), (⟨"SegmentLog$Head", "readFiles", "(LSegmentLog$Blocks;I)Z"⟩, 4), (⟨"SegmentLog$Head", "overlaps", "(II)Z"⟩, 4), (⟨"SegmentLog", "firstWrongBlock", "()I"⟩, 11), (⟨"SegmentLog", "isFileBlock", "(II)Z"⟩, 11), (⟨"SegmentLog", "readFile", "(I)V"⟩, 11)]
theorem lw_r3 : ∀ q ∈ lw_privs_3, lw_okq q := List.forall_mem_cons.mpr ⟨lw_p32, List.forall_mem_cons.mpr ⟨lw_p33, List.forall_mem_cons.mpr ⟨lw_p34, List.forall_mem_cons.mpr ⟨lw_p35, List.forall_mem_cons.mpr ⟨lw_p36, List.forall_mem_cons.mpr ⟨lw_p37, List.forall_mem_cons.mpr ⟨lw_p38, List.forall_mem_cons.mpr ⟨lw_p39, List.forall_mem_cons.mpr ⟨lw_p40, List.forall_mem_cons.mpr ⟨lw_p41, List.forall_mem_cons.mpr ⟨lw_p42, List.forall_mem_cons.mpr ⟨lw_p43, List.forall_mem_cons.mpr ⟨lw_p44, List.forall_mem_cons.mpr ⟨lw_p45, List.forall_mem_cons.mpr ⟨lw_p46, List.forall_mem_cons.mpr ⟨lw_p47, fun _ h => absurd h List.not_mem_nil⟩⟩⟩⟩⟩⟩⟩⟩⟩⟩⟩⟩⟩⟩⟩⟩
theorem lw_p48 : lw_okq (⟨"SegmentLog", "readRecord", "(III)V"⟩, 11) := ⟨⟨by decide +kernel, by decide +kernel⟩, List.mem_of_getElem? (i := 10) (by decide +kernel), List.mem_of_getElem? (i := 405) (by decide +kernel), List.mem_of_getElem? (i := 406) (by decide +kernel)⟩
theorem lw_p49 : lw_okq (⟨"SegmentLog", "replayLog", "()V"⟩, 11) := ⟨⟨by decide +kernel, by decide +kernel⟩, List.mem_of_getElem? (i := 10) (by decide +kernel), List.mem_of_getElem? (i := 412) (by decide +kernel), List.mem_of_getElem? (i := 413) (by decide +kernel)⟩
theorem lw_p50 : lw_okq (⟨"SegmentLog$Uses", "of", "(I)I"⟩, 2) := ⟨⟨by decide +kernel, by decide +kernel⟩, List.mem_of_getElem? (i := 34) (by decide +kernel), List.mem_of_getElem? (i := 416) (by decide +kernel), List.mem_of_getElem? (i := 417) (by decide +kernel)⟩
theorem lw_p51 : lw_okq (⟨"SegmentLog", "nextLogBlock", "()I"⟩, 11) := ⟨⟨by decide +kernel, by decide +kernel⟩, List.mem_of_getElem? (i := 10) (by decide +kernel), List.mem_of_getElem? (i := 420) (by decide +kernel), List.mem_of_getElem? (i := 421) (by decide +kernel)⟩
theorem lw_p52 : lw_okq (⟨"SegmentLog", "readLogBlock", "(I)V"⟩, 11) := ⟨⟨by decide +kernel, by decide +kernel⟩, List.mem_of_getElem? (i := 10) (by decide +kernel), List.mem_of_getElem? (i := 424) (by decide +kernel), List.mem_of_getElem? (i := 425) (by decide +kernel)⟩
theorem lw_p53 : lw_okq (⟨"SegmentLog", "wipeOldLog", "()V"⟩, 11) := ⟨⟨by decide +kernel, by decide +kernel⟩, List.mem_of_getElem? (i := 10) (by decide +kernel), List.mem_of_getElem? (i := 428) (by decide +kernel), List.mem_of_getElem? (i := 429) (by decide +kernel)⟩
theorem lw_p54 : lw_okq (⟨"SegmentLog$Table", "below", "(J)I"⟩, 4) := ⟨⟨by decide +kernel, by decide +kernel⟩, List.mem_of_getElem? (i := 79) (by decide +kernel), List.mem_of_getElem? (i := 442) (by decide +kernel), List.mem_of_getElem? (i := 443) (by decide +kernel)⟩
theorem lw_p55 : lw_okq (⟨"SegmentLog", "placeOf", "(I)I"⟩, 11) := ⟨⟨by decide +kernel, by decide +kernel⟩, List.mem_of_getElem? (i := 10) (by decide +kernel), List.mem_of_getElem? (i := 455) (by decide +kernel), List.mem_of_getElem? (i := 456) (by decide +kernel)⟩
theorem lw_p56 : lw_okq (⟨"SegmentLog", "shouldBeWhole", "(I)Z"⟩, 11) := ⟨⟨by decide +kernel, by decide +kernel⟩, List.mem_of_getElem? (i := 10) (by decide +kernel), List.mem_of_getElem? (i := 481) (by decide +kernel), List.mem_of_getElem? (i := 482) (by decide +kernel)⟩
theorem lw_p57 : lw_okq (⟨"SegmentLog$Queue", "holds", "(I)Z"⟩, 3) := ⟨⟨by decide +kernel, by decide +kernel⟩, List.mem_of_getElem? (i := 59) (by decide +kernel), List.mem_of_getElem? (i := 485) (by decide +kernel), List.mem_of_getElem? (i := 486) (by decide +kernel)⟩
theorem lw_p58 : lw_okq (⟨"SegmentLog", "countOpen", "(I)I"⟩, 11) := ⟨⟨by decide +kernel, by decide +kernel⟩, List.mem_of_getElem? (i := 10) (by decide +kernel), List.mem_of_getElem? (i := 498) (by decide +kernel), List.mem_of_getElem? (i := 499) (by decide +kernel)⟩
theorem lw_p59 : lw_okq (⟨"SegmentLog$Uses", "howMany", "(I)I"⟩, 2) := ⟨⟨by decide +kernel, by decide +kernel⟩, List.mem_of_getElem? (i := 34) (by decide +kernel), List.mem_of_getElem? (i := 502) (by decide +kernel), List.mem_of_getElem? (i := 503) (by decide +kernel)⟩
theorem lw_p60 : lw_okq (⟨"SegmentLogModel", "forget", "()V"⟩, 22) := ⟨⟨by decide +kernel, by decide +kernel⟩, List.mem_of_getElem? (i := 506) (by decide +kernel), List.mem_of_getElem? (i := 521) (by decide +kernel), List.mem_of_getElem? (i := 522) (by decide +kernel)⟩
theorem lw_p61 : lw_okq (⟨"SegmentLogModel", "free", "(I)I"⟩, 22) := ⟨⟨by decide +kernel, by decide +kernel⟩, List.mem_of_getElem? (i := 506) (by decide +kernel), List.mem_of_getElem? (i := 597) (by decide +kernel), List.mem_of_getElem? (i := 598) (by decide +kernel)⟩
theorem lw_p62 : lw_okq (⟨"SegmentLogModel", "useOf", "(I)I"⟩, 22) := ⟨⟨by decide +kernel, by decide +kernel⟩, List.mem_of_getElem? (i := 506) (by decide +kernel), List.mem_of_getElem? (i := 601) (by decide +kernel), List.mem_of_getElem? (i := 602) (by decide +kernel)⟩
theorem lw_p63 : lw_okq (⟨"SegmentLogModel", "isOfFiles", "(I)Z"⟩, 22) := ⟨⟨by decide +kernel, by decide +kernel⟩, List.mem_of_getElem? (i := 506) (by decide +kernel), List.mem_of_getElem? (i := 605) (by decide +kernel), List.mem_of_getElem? (i := 606) (by decide +kernel)⟩
def lw_privs_4 : List (MethodName × Nat) := [(⟨"SegmentLog", "readRecord", "(III)V"⟩, 11), (⟨"SegmentLog", "replayLog", "()V"⟩, 11), (⟨"SegmentLog$Uses", "of", "(I)I"⟩, 2), (⟨"SegmentLog", "nextLogBlock", "()I"⟩, 11), (⟨"SegmentLog", "readLogBlock", "(I)V"⟩, 11), (⟨"SegmentLog", "wipeOldLog", "()V"⟩, 11), (⟨"SegmentLog$Table", "below", "(J)I"⟩, 4), (⟨"SegmentLog", "placeOf", "(I)I"⟩, 11), (⟨"SegmentLog", "shouldBeWhole", "(I)Z"⟩, 11), (⟨"SegmentLog$Queue", "holds", "(I)Z"⟩, 3), (⟨"SegmentLog", "countOpen", "(I)I"⟩, 11), (⟨"SegmentLog$Uses", "howMany", "(I)I"⟩, 2), (⟨"SegmentLogModel", "forget", "()V"⟩, 22), (⟨"SegmentLogModel", "free", "(I)I"⟩, 22), (⟨"SegmentLogModel", "useOf", "(I)I"⟩, 22), (⟨"SegmentLogModel", "isOfFiles", "(I)Z"⟩, 22)]
theorem lw_r4 : ∀ q ∈ lw_privs_4, lw_okq q := List.forall_mem_cons.mpr ⟨lw_p48, List.forall_mem_cons.mpr ⟨lw_p49, List.forall_mem_cons.mpr ⟨lw_p50, List.forall_mem_cons.mpr ⟨lw_p51, List.forall_mem_cons.mpr ⟨lw_p52, List.forall_mem_cons.mpr ⟨lw_p53, List.forall_mem_cons.mpr ⟨lw_p54, List.forall_mem_cons.mpr ⟨lw_p55, List.forall_mem_cons.mpr ⟨lw_p56, List.forall_mem_cons.mpr ⟨lw_p57, List.forall_mem_cons.mpr ⟨lw_p58, List.forall_mem_cons.mpr ⟨lw_p59, List.forall_mem_cons.mpr ⟨lw_p60, List.forall_mem_cons.mpr ⟨lw_p61, List.forall_mem_cons.mpr ⟨lw_p62, List.forall_mem_cons.mpr ⟨lw_p63, fun _ h => absurd h List.not_mem_nil⟩⟩⟩⟩⟩⟩⟩⟩⟩⟩⟩⟩⟩⟩⟩⟩
theorem lw_p64 : lw_okq (⟨"SegmentLogModel", "writesLog", "()Z"⟩, 22) := ⟨⟨by decide +kernel, by decide +kernel⟩, List.mem_of_getElem? (i := 506) (by decide +kernel), List.mem_of_getElem? (i := 609) (by decide +kernel), List.mem_of_getElem? (i := 610) (by decide +kernel)⟩
theorem lw_p65 : lw_okq (⟨"SegmentLogModel", "begin", "(I)V"⟩, 22) := ⟨⟨by decide +kernel, by decide +kernel⟩, List.mem_of_getElem? (i := 506) (by decide +kernel), List.mem_of_getElem? (i := 613) (by decide +kernel), List.mem_of_getElem? (i := 614) (by decide +kernel)⟩
theorem lw_p66 : lw_okq (⟨"SegmentLogModel", "put", "(IJI)V"⟩, 22) := ⟨⟨by decide +kernel, by decide +kernel⟩, List.mem_of_getElem? (i := 506) (by decide +kernel), List.mem_of_getElem? (i := 617) (by decide +kernel), List.mem_of_getElem? (i := 618) (by decide +kernel)⟩
theorem lw_p67 : lw_okq (⟨"SegmentLogModel", "end", "()V"⟩, 22) := ⟨⟨by decide +kernel, by decide +kernel⟩, List.mem_of_getElem? (i := 506) (by decide +kernel), List.mem_of_getElem? (i := 621) (by decide +kernel), List.mem_of_getElem? (i := 622) (by decide +kernel)⟩
theorem lw_p68 : lw_okq (⟨"SegmentLogModel", "pours", "(J)I"⟩, 22) := ⟨⟨by decide +kernel, by decide +kernel⟩, List.mem_of_getElem? (i := 506) (by decide +kernel), List.mem_of_getElem? (i := 637) (by decide +kernel), List.mem_of_getElem? (i := 638) (by decide +kernel)⟩
theorem lw_p69 : lw_okq (⟨"SegmentLogModel", "inFiles", "()I"⟩, 22) := ⟨⟨by decide +kernel, by decide +kernel⟩, List.mem_of_getElem? (i := 506) (by decide +kernel), List.mem_of_getElem? (i := 645) (by decide +kernel), List.mem_of_getElem? (i := 646) (by decide +kernel)⟩
theorem lw_p70 : lw_okq (⟨"SegmentLogModel", "sort", "(I)V"⟩, 22) := ⟨⟨by decide +kernel, by decide +kernel⟩, List.mem_of_getElem? (i := 506) (by decide +kernel), List.mem_of_getElem? (i := 649) (by decide +kernel), List.mem_of_getElem? (i := 650) (by decide +kernel)⟩
theorem lw_p71 : lw_okq (⟨"SegmentLogModel", "writesFile", "(IIIII)V"⟩, 22) := ⟨⟨by decide +kernel, by decide +kernel⟩, List.mem_of_getElem? (i := 506) (by decide +kernel), List.mem_of_getElem? (i := 653) (by decide +kernel), List.mem_of_getElem? (i := 654) (by decide +kernel)⟩
theorem lw_p72 : lw_okq (⟨"SegmentLogModel", "writesHead", "(I)V"⟩, 22) := ⟨⟨by decide +kernel, by decide +kernel⟩, List.mem_of_getElem? (i := 506) (by decide +kernel), List.mem_of_getElem? (i := 658) (by decide +kernel), List.mem_of_getElem? (i := 659) (by decide +kernel)⟩
theorem lw_p73 : lw_okq (⟨"SegmentLogModel", "closes", "()V"⟩, 22) := ⟨⟨by decide +kernel, by decide +kernel⟩, List.mem_of_getElem? (i := 506) (by decide +kernel), List.mem_of_getElem? (i := 663) (by decide +kernel), List.mem_of_getElem? (i := 664) (by decide +kernel)⟩
theorem lw_p74 : lw_okq (⟨"SegmentLogModel", "isHead", "(I)Z"⟩, 22) := ⟨⟨by decide +kernel, by decide +kernel⟩, List.mem_of_getElem? (i := 506) (by decide +kernel), List.mem_of_getElem? (i := 675) (by decide +kernel), List.mem_of_getElem? (i := 676) (by decide +kernel)⟩
theorem lw_p75 : lw_okq (⟨"SegmentLogModel", "isWhole", "(I)Z"⟩, 22) := ⟨⟨by decide +kernel, by decide +kernel⟩, List.mem_of_getElem? (i := 506) (by decide +kernel), List.mem_of_getElem? (i := 682) (by decide +kernel), List.mem_of_getElem? (i := 683) (by decide +kernel)⟩
theorem lw_p76 : lw_okq (⟨"SegmentLogModel", "isFile", "(III)Z"⟩, 22) := ⟨⟨by decide +kernel, by decide +kernel⟩, List.mem_of_getElem? (i := 506) (by decide +kernel), List.mem_of_getElem? (i := 688) (by decide +kernel), List.mem_of_getElem? (i := 689) (by decide +kernel)⟩
theorem lw_p77 : lw_okq (⟨"SegmentLogModel", "readsFiles", "(I)I"⟩, 22) := ⟨⟨by decide +kernel, by decide +kernel⟩, List.mem_of_getElem? (i := 506) (by decide +kernel), List.mem_of_getElem? (i := 692) (by decide +kernel), List.mem_of_getElem? (i := 693) (by decide +kernel)⟩
theorem lw_p78 : lw_okq (⟨"SegmentLogModel", "isFileBlock", "(II)Z"⟩, 22) := ⟨⟨by decide +kernel, by decide +kernel⟩, List.mem_of_getElem? (i := 506) (by decide +kernel), List.mem_of_getElem? (i := 696) (by decide +kernel), List.mem_of_getElem? (i := 697) (by decide +kernel)⟩
theorem lw_p79 : lw_okq (⟨"SegmentLogModel", "reads", "(II)V"⟩, 22) := ⟨⟨by decide +kernel, by decide +kernel⟩, List.mem_of_getElem? (i := 506) (by decide +kernel), List.mem_of_getElem? (i := 700) (by decide +kernel), List.mem_of_getElem? (i := 701) (by decide +kernel)⟩
def lw_privs_5 : List (MethodName × Nat) := [(⟨"SegmentLogModel", "writesLog", "()Z"⟩, 22), (⟨"SegmentLogModel", "begin", "(I)V"⟩, 22), (⟨"SegmentLogModel", "put", "(IJI)V"⟩, 22), (⟨"SegmentLogModel", "end", "()V"⟩, 22), (⟨"SegmentLogModel", "pours", "(J)I"⟩, 22), (⟨"SegmentLogModel", "inFiles", "()I"⟩, 22), (⟨"SegmentLogModel", "sort", "(I)V"⟩, 22), (⟨"SegmentLogModel", "writesFile", "(IIIII)V"⟩, 22), (⟨"SegmentLogModel", "writesHead", "(I)V"⟩, 22), (⟨"SegmentLogModel", "closes", "()V"⟩, 22), (⟨"SegmentLogModel", "isHead", "(I)Z"⟩, 22), (⟨"SegmentLogModel", "isWhole", "(I)Z"⟩, 22), (⟨"SegmentLogModel", "isFile", "(III)Z"⟩, 22), (⟨"SegmentLogModel", "readsFiles", "(I)I"⟩, 22), (⟨"SegmentLogModel", "isFileBlock", "(II)Z"⟩, 22), (⟨"SegmentLogModel", "reads", "(II)V"⟩, 22)]
theorem lw_r5 : ∀ q ∈ lw_privs_5, lw_okq q := List.forall_mem_cons.mpr ⟨lw_p64, List.forall_mem_cons.mpr ⟨lw_p65, List.forall_mem_cons.mpr ⟨lw_p66, List.forall_mem_cons.mpr ⟨lw_p67, List.forall_mem_cons.mpr ⟨lw_p68, List.forall_mem_cons.mpr ⟨lw_p69, List.forall_mem_cons.mpr ⟨lw_p70, List.forall_mem_cons.mpr ⟨lw_p71, List.forall_mem_cons.mpr ⟨lw_p72, List.forall_mem_cons.mpr ⟨lw_p73, List.forall_mem_cons.mpr ⟨lw_p74, List.forall_mem_cons.mpr ⟨lw_p75, List.forall_mem_cons.mpr ⟨lw_p76, List.forall_mem_cons.mpr ⟨lw_p77, List.forall_mem_cons.mpr ⟨lw_p78, List.forall_mem_cons.mpr ⟨lw_p79, fun _ h => absurd h List.not_mem_nil⟩⟩⟩⟩⟩⟩⟩⟩⟩⟩⟩⟩⟩⟩⟩⟩
theorem lw_p80 : lw_okq (⟨"SegmentLogModel", "readsLogs", "()V"⟩, 22) := ⟨⟨by decide +kernel, by decide +kernel⟩, List.mem_of_getElem? (i := 506) (by decide +kernel), List.mem_of_getElem? (i := 704) (by decide +kernel), List.mem_of_getElem? (i := 705) (by decide +kernel)⟩
theorem lw_p81 : lw_okq (⟨"SegmentLogModel", "isLog", "(I)Z"⟩, 22) := ⟨⟨by decide +kernel, by decide +kernel⟩, List.mem_of_getElem? (i := 506) (by decide +kernel), List.mem_of_getElem? (i := 708) (by decide +kernel), List.mem_of_getElem? (i := 709) (by decide +kernel)⟩
theorem lw_p82 : lw_okq (⟨"SegmentLogModel", "isQueued", "(I)Z"⟩, 22) := ⟨⟨by decide +kernel, by decide +kernel⟩, List.mem_of_getElem? (i := 506) (by decide +kernel), List.mem_of_getElem? (i := 716) (by decide +kernel), List.mem_of_getElem? (i := 717) (by decide +kernel)⟩
def lw_privs_6 : List (MethodName × Nat) := [(⟨"SegmentLogModel", "readsLogs", "()V"⟩, 22), (⟨"SegmentLogModel", "isLog", "(I)Z"⟩, 22), (⟨"SegmentLogModel", "isQueued", "(I)Z"⟩, 22)]
theorem lw_r6 : ∀ q ∈ lw_privs_6, lw_okq q := List.forall_mem_cons.mpr ⟨lw_p80, List.forall_mem_cons.mpr ⟨lw_p81, List.forall_mem_cons.mpr ⟨lw_p82, fun _ h => absurd h List.not_mem_nil⟩⟩⟩
def lw_privs : List (MethodName × Nat) := lw_privs_1 ++ (lw_privs_2 ++ (lw_privs_3 ++ (lw_privs_4 ++ (lw_privs_5 ++ (lw_privs_6)))))
def lw_tbl : List Cond := k2_sels lw_privs ++ tables_1
theorem lw_privs_ok : ∀ q ∈ lw_privs, lw_okq q := by
  show ∀ q ∈ lw_privs_1 ++ (lw_privs_2 ++ (lw_privs_3 ++ (lw_privs_4 ++ (lw_privs_5 ++ (lw_privs_6))))), lw_okq q
  exact List.forall_mem_append.mpr ⟨lw_r1, List.forall_mem_append.mpr ⟨lw_r2, List.forall_mem_append.mpr ⟨lw_r3, List.forall_mem_append.mpr ⟨lw_r4, List.forall_mem_append.mpr ⟨lw_r5, lw_r6⟩⟩⟩⟩⟩

def RL : String := "SegmentLogLaw"
def RX0 : String := "SegmentLog$Blocks"
def TX0 : u_T := fun k => match k with
  | 0 => ("SegmentLog$Blocks", "bytes", "[B", true)
  | _ => ("SegmentLog$Blocks", "size", "I", false)
def tyX0 : Nat → FieldType := fun k => match k with
  | 0 => .array .byte
  | _ => .int
abbrev wsX00 : List Cond := u_ws RX0 TX0 2
theorem nmX0 : ∀ a, a < 2 → ∀ b, b < 2 → a ≠ b → (TX0 a).2.1 ≠ (TX0 b).2.1 := by decide +kernel
theorem tyX0_ok : ∀ k, k < 2 → parseFieldDescriptor (TX0 k).2.2.1 = some (tyX0 k) := by decide +kernel
abbrev cX0_init : ByteArray := prog_2_method_1_code
def yX0_init : MethodName := ⟨RX0, "<init>", "(I)V"⟩
abbrev cX0_renew : ByteArray := prog_2_method_2_code
def yX0_renew : MethodName := ⟨RX0, "renew", "(I)V"⟩
abbrev cX0_has : ByteArray := prog_2_method_3_code
def yX0_has : MethodName := ⟨RX0, "has", "(II)Z"⟩
abbrev cX0_value : ByteArray := prog_2_method_4_code
def yX0_value : MethodName := ⟨RX0, "value", "(II)I"⟩
abbrev cX0_put : ByteArray := prog_2_method_5_code
def yX0_put : MethodName := ⟨RX0, "put", "(III)V"⟩
abbrev cX0_number : ByteArray := prog_2_method_6_code
def yX0_number : MethodName := ⟨RX0, "number", "(III)J"⟩
abbrev cX0_putNumber : ByteArray := prog_2_method_7_code
def yX0_putNumber : MethodName := ⟨RX0, "putNumber", "(IIIJ)V"⟩
abbrev cX0_wipe : ByteArray := prog_2_method_8_code
def yX0_wipe : MethodName := ⟨RX0, "wipe", "(I)V"⟩
abbrev cX0_sum : ByteArray := prog_2_method_9_code
def yX0_sum : MethodName := ⟨RX0, "sum", "(II)J"⟩
abbrev cX0_isWhole : ByteArray := prog_2_method_10_code
def yX0_isWhole : MethodName := ⟨RX0, "isWhole", "(I)Z"⟩
def RX1 : String := "SegmentLog$Head"
def TX1 : u_T := fun k => match k with
  | 0 => ("SegmentLog$Head", "fields", "[I", true)
  | 1 => ("SegmentLog$Head", "files", "I", false)
  | 2 => ("SegmentLog$Head", "generation", "I", false)
  | _ => ("SegmentLog$Head", "next", "I", false)
def tyX1 : Nat → FieldType := fun k => match k with
  | 0 => .array .int
  | 1 => .int
  | 2 => .int
  | _ => .int
abbrev wsX10 : List Cond := u_ws RX1 TX1 4
theorem nmX1 : ∀ a, a < 4 → ∀ b, b < 4 → a ≠ b → (TX1 a).2.1 ≠ (TX1 b).2.1 := by decide +kernel
theorem tyX1_ok : ∀ k, k < 4 → parseFieldDescriptor (TX1 k).2.2.1 = some (tyX1 k) := by decide +kernel
abbrev cX1_init : ByteArray := prog_3_method_1_code
def yX1_init : MethodName := ⟨RX1, "<init>", "()V"⟩
abbrev cX1_clear : ByteArray := prog_3_method_2_code
def yX1_clear : MethodName := ⟨RX1, "clear", "()V"⟩
abbrev cX1_fieldAt : ByteArray := prog_3_method_3_code
def yX1_fieldAt : MethodName := ⟨RX1, "fieldAt", "(II)I"⟩
abbrev cX1_field : ByteArray := prog_3_method_4_code
def yX1_field : MethodName := ⟨RX1, "field", "(II)I"⟩
abbrev cX1_append : ByteArray := prog_3_method_5_code
def yX1_append : MethodName := ⟨RX1, "append", "(IIII)V"⟩
abbrev cX1_appendAll : ByteArray := prog_3_method_6_code
def yX1_appendAll : MethodName := ⟨RX1, "appendAll", "(LSegmentLog$Head;)V"⟩
abbrev cX1_read : ByteArray := prog_3_method_7_code
def yX1_read : MethodName := ⟨RX1, "read", "(LSegmentLog$Blocks;I)V"⟩
abbrev cX1_inRange : ByteArray := prog_3_method_8_code
def yX1_inRange : MethodName := ⟨RX1, "inRange", "(J)Z"⟩
abbrev cX1_readFiles : ByteArray := prog_3_method_9_code
def yX1_readFiles : MethodName := ⟨RX1, "readFiles", "(LSegmentLog$Blocks;I)Z"⟩
abbrev cX1_overlaps : ByteArray := prog_3_method_10_code
def yX1_overlaps : MethodName := ⟨RX1, "overlaps", "(II)Z"⟩
def RX2 : String := "SegmentLog$Queue"
def TX2 : u_T := fun k => match k with
  | 0 => ("SegmentLog$Queue", "images", "LSegmentLog$Blocks;", true)
  | 1 => ("SegmentLog$Queue", "targets", "[I", true)
  | _ => ("SegmentLog$Queue", "size", "I", false)
def tyX2 : Nat → FieldType := fun k => match k with
  | 0 => .object "SegmentLog$Blocks"
  | 1 => .array .int
  | _ => .int
abbrev wsX20 : List Cond := u_ws RX2 TX2 3
theorem nmX2 : ∀ a, a < 3 → ∀ b, b < 3 → a ≠ b → (TX2 a).2.1 ≠ (TX2 b).2.1 := by decide +kernel
theorem tyX2_ok : ∀ k, k < 3 → parseFieldDescriptor (TX2 k).2.2.1 = some (tyX2 k) := by decide +kernel
abbrev cX2_init : ByteArray := prog_4_method_1_code
def yX2_init : MethodName := ⟨RX2, "<init>", "()V"⟩
abbrev cX2_clear : ByteArray := prog_4_method_2_code
def yX2_clear : MethodName := ⟨RX2, "clear", "()V"⟩
abbrev cX2_bytes : ByteArray := prog_4_method_3_code
def yX2_bytes : MethodName := ⟨RX2, "bytes", "()I"⟩
abbrev cX2_target : ByteArray := prog_4_method_4_code
def yX2_target : MethodName := ⟨RX2, "target", "(I)I"⟩
abbrev cX2_holds : ByteArray := prog_4_method_5_code
def yX2_holds : MethodName := ⟨RX2, "holds", "(I)Z"⟩
abbrev cX2_append : ByteArray := prog_4_method_6_code
def yX2_append : MethodName := ⟨RX2, "append", "(III)I"⟩
abbrev cX2_seal : ByteArray := prog_4_method_7_code
def yX2_seal : MethodName := ⟨RX2, "seal", "(I)V"⟩
abbrev cX2_drain : ByteArray := prog_4_method_8_code
def yX2_drain : MethodName := ⟨RX2, "drain", "(LSegmentLog$Blocks;I)I"⟩
def RX3 : String := "SegmentLog$Table"
def TX3 : u_T := fun k => match k with
  | 0 => ("SegmentLog$Table", "keys", "[J", true)
  | 1 => ("SegmentLog$Table", "values", "[J", true)
  | 2 => ("SegmentLog$Table", "sequences", "[I", true)
  | _ => ("SegmentLog$Table", "size", "I", false)
def tyX3 : Nat → FieldType := fun k => match k with
  | 0 => .array .long
  | 1 => .array .long
  | 2 => .array .int
  | _ => .int
abbrev wsX30 : List Cond := u_ws RX3 TX3 4
theorem nmX3 : ∀ a, a < 4 → ∀ b, b < 4 → a ≠ b → (TX3 a).2.1 ≠ (TX3 b).2.1 := by decide +kernel
theorem tyX3_ok : ∀ k, k < 4 → parseFieldDescriptor (TX3 k).2.2.1 = some (tyX3 k) := by decide +kernel
abbrev cX3_init : ByteArray := prog_5_method_1_code
def yX3_init : MethodName := ⟨RX3, "<init>", "()V"⟩
abbrev cX3_clear : ByteArray := prog_5_method_2_code
def yX3_clear : MethodName := ⟨RX3, "clear", "()V"⟩
abbrev cX3_has : ByteArray := prog_5_method_3_code
def yX3_has : MethodName := ⟨RX3, "has", "(I)Z"⟩
abbrev cX3_key : ByteArray := prog_5_method_4_code
def yX3_key : MethodName := ⟨RX3, "key", "(I)J"⟩
abbrev cX3_value : ByteArray := prog_5_method_5_code
def yX3_value : MethodName := ⟨RX3, "value", "(I)J"⟩
abbrev cX3_sequence : ByteArray := prog_5_method_6_code
def yX3_sequence : MethodName := ⟨RX3, "sequence", "(I)I"⟩
abbrev cX3_insert : ByteArray := prog_5_method_7_code
def yX3_insert : MethodName := ⟨RX3, "insert", "(JJI)V"⟩
abbrev cX3_below : ByteArray := prog_5_method_8_code
def yX3_below : MethodName := ⟨RX3, "below", "(J)I"⟩
abbrev cX3_upTo : ByteArray := prog_5_method_9_code
def yX3_upTo : MethodName := ⟨RX3, "upTo", "(J)I"⟩
abbrev cX3_withSequence : ByteArray := prog_5_method_10_code
def yX3_withSequence : MethodName := ⟨RX3, "withSequence", "(I)I"⟩
abbrev cX3_settle : ByteArray := prog_5_method_11_code
def yX3_settle : MethodName := ⟨RX3, "settle", "()V"⟩
def RX4 : String := "SegmentLog$Uses"
def TX4 : u_T := fun k => match k with
  | 0 => ("SegmentLog$Uses", "uses", "[I", true)
  | _ => ("SegmentLog$Uses", "size", "I", false)
def tyX4 : Nat → FieldType := fun k => match k with
  | 0 => .array .int
  | _ => .int
abbrev wsX40 : List Cond := u_ws RX4 TX4 2
theorem nmX4 : ∀ a, a < 2 → ∀ b, b < 2 → a ≠ b → (TX4 a).2.1 ≠ (TX4 b).2.1 := by decide +kernel
theorem tyX4_ok : ∀ k, k < 2 → parseFieldDescriptor (TX4 k).2.2.1 = some (tyX4 k) := by decide +kernel
abbrev cX4_init : ByteArray := prog_6_method_1_code
def yX4_init : MethodName := ⟨RX4, "<init>", "(I)V"⟩
abbrev cX4_clear : ByteArray := prog_6_method_2_code
def yX4_clear : MethodName := ⟨RX4, "clear", "(I)V"⟩
abbrev cX4_of : ByteArray := prog_6_method_3_code
def yX4_of : MethodName := ⟨RX4, "of", "(I)I"⟩
abbrev cX4_mark : ByteArray := prog_6_method_4_code
def yX4_mark : MethodName := ⟨RX4, "mark", "(III)V"⟩
abbrev cX4_turn : ByteArray := prog_6_method_5_code
def yX4_turn : MethodName := ⟨RX4, "turn", "(II)V"⟩
abbrev cX4_howMany : ByteArray := prog_6_method_6_code
def yX4_howMany : MethodName := ⟨RX4, "howMany", "(I)I"⟩
abbrev cX4_leastFree : ByteArray := prog_6_method_7_code
def yX4_leastFree : MethodName := ⟨RX4, "leastFree", "()I"⟩
abbrev cX4_leastRun : ByteArray := prog_6_method_8_code
def yX4_leastRun : MethodName := ⟨RX4, "leastRun", "(I)I"⟩
def RX5 : String := "SegmentLog"
def TX5 : u_T := fun k => match k with
  | 0 => ("SegmentLog", "disk", "LSegmentLog$Blocks;", true)
  | 1 => ("SegmentLog", "uses", "LSegmentLog$Uses;", true)
  | 2 => ("SegmentLog", "queue", "LSegmentLog$Queue;", true)
  | 3 => ("SegmentLog", "table", "LSegmentLog$Table;", true)
  | 4 => ("SegmentLog", "head", "LSegmentLog$Head;", false)
  | 5 => ("SegmentLog", "spare", "LSegmentLog$Head;", false)
  | 6 => ("SegmentLog", "isOpen", "Z", false)
  | 7 => ("SegmentLog", "next", "I", false)
  | 8 => ("SegmentLog", "waiting", "I", false)
  | 9 => ("SegmentLog", "safe", "I", false)
  | _ => ("SegmentLog", "latestFile", "I", false)
def tyX5 : Nat → FieldType := fun k => match k with
  | 0 => .object "SegmentLog$Blocks"
  | 1 => .object "SegmentLog$Uses"
  | 2 => .object "SegmentLog$Queue"
  | 3 => .object "SegmentLog$Table"
  | 4 => .object "SegmentLog$Head"
  | 5 => .object "SegmentLog$Head"
  | 6 => .boolean
  | 7 => .int
  | 8 => .int
  | 9 => .int
  | _ => .int
abbrev wsX50 : List Cond := u_ws RX5 TX5 11
theorem nmX5 : ∀ a, a < 11 → ∀ b, b < 11 → a ≠ b → (TX5 a).2.1 ≠ (TX5 b).2.1 := by decide +kernel
theorem tyX5_ok : ∀ k, k < 11 → parseFieldDescriptor (TX5 k).2.2.1 = some (tyX5 k) := by decide +kernel
abbrev cX5_init : ByteArray := prog_1_method_1_code
def yX5_init : MethodName := ⟨RX5, "<init>", "()V"⟩
abbrev cX5_format : ByteArray := prog_1_method_2_code
def yX5_format : MethodName := ⟨RX5, "format", "(I)I"⟩
abbrev cX5_add : ByteArray := prog_1_method_3_code
def yX5_add : MethodName := ⟨RX5, "add", "(JJ)I"⟩
abbrev cX5_flush : ByteArray := prog_1_method_4_code
def yX5_flush : MethodName := ⟨RX5, "flush", "()I"⟩
abbrev cX5_sync : ByteArray := prog_1_method_5_code
def yX5_sync : MethodName := ⟨RX5, "sync", "()I"⟩
abbrev cX5_commit : ByteArray := prog_1_method_6_code
def yX5_commit : MethodName := ⟨RX5, "commit", "(I)I"⟩
abbrev cX5_crash : ByteArray := prog_1_method_7_code
def yX5_crash : MethodName := ⟨RX5, "crash", "(I)I"⟩
abbrev cX5_open : ByteArray := prog_1_method_8_code
def yX5_open : MethodName := ⟨RX5, "open", "()I"⟩
abbrev cX5_acknowledged : ByteArray := prog_1_method_9_code
def yX5_acknowledged : MethodName := ⟨RX5, "acknowledged", "()I"⟩
abbrev cX5_get : ByteArray := prog_1_method_10_code
def yX5_get : MethodName := ⟨RX5, "get", "(J)J"⟩
abbrev cX5_times : ByteArray := prog_1_method_11_code
def yX5_times : MethodName := ⟨RX5, "times", "(J)I"⟩
abbrev cX5_record : ByteArray := prog_1_method_12_code
def yX5_record : MethodName := ⟨RX5, "record", "(II)J"⟩
abbrev cX5_file : ByteArray := prog_1_method_13_code
def yX5_file : MethodName := ⟨RX5, "file", "(II)I"⟩
abbrev cX5_use : ByteArray := prog_1_method_14_code
def yX5_use : MethodName := ⟨RX5, "use", "(I)I"⟩
abbrev cX5_octet : ByteArray := prog_1_method_15_code
def yX5_octet : MethodName := ⟨RX5, "octet", "(II)I"⟩
abbrev cX5_poke : ByteArray := prog_1_method_16_code
def yX5_poke : MethodName := ⟨RX5, "poke", "(III)I"⟩
abbrev cX5_bad : ByteArray := prog_1_method_17_code
def yX5_bad : MethodName := ⟨RX5, "bad", "()I"⟩
abbrev cX5_queued : ByteArray := prog_1_method_18_code
def yX5_queued : MethodName := ⟨RX5, "queued", "(I)I"⟩
abbrev cX5_count : ByteArray := prog_1_method_19_code
def yX5_count : MethodName := ⟨RX5, "count", "(I)I"⟩
abbrev cX5_countOpen : ByteArray := prog_1_method_20_code
def yX5_countOpen : MethodName := ⟨RX5, "countOpen", "(I)I"⟩
abbrev cX5_forget : ByteArray := prog_1_method_21_code
def yX5_forget : MethodName := ⟨RX5, "forget", "()V"⟩
abbrev cX5_placeOf : ByteArray := prog_1_method_22_code
def yX5_placeOf : MethodName := ⟨RX5, "placeOf", "(I)I"⟩
abbrev cX5_shouldBeWhole : ByteArray := prog_1_method_23_code
def yX5_shouldBeWhole : MethodName := ⟨RX5, "shouldBeWhole", "(I)Z"⟩
abbrev cX5_blocksFor : ByteArray := prog_1_method_24_code
def yX5_blocksFor : MethodName := ⟨RX5, "blocksFor", "(I)I"⟩
abbrev cX5_recordsAt : ByteArray := prog_1_method_25_code
def yX5_recordsAt : MethodName := ⟨RX5, "recordsAt", "(II)I"⟩
abbrev cX5_queueLog : ByteArray := prog_1_method_26_code
def yX5_queueLog : MethodName := ⟨RX5, "queueLog", "(I)V"⟩
abbrev cX5_queueRecord : ByteArray := prog_1_method_27_code
def yX5_queueRecord : MethodName := ⟨RX5, "queueRecord", "(III)V"⟩
abbrev cX5_planHead : ByteArray := prog_1_method_28_code
def yX5_planHead : MethodName := ⟨RX5, "planHead", "(ZIII)V"⟩
abbrev cX5_queueFile : ByteArray := prog_1_method_29_code
def yX5_queueFile : MethodName := ⟨RX5, "queueFile", "(Z)V"⟩
abbrev cX5_queueHead : ByteArray := prog_1_method_30_code
def yX5_queueHead : MethodName := ⟨RX5, "queueHead", "()V"⟩
abbrev cX5_takePlannedHead : ByteArray := prog_1_method_31_code
def yX5_takePlannedHead : MethodName := ⟨RX5, "takePlannedHead", "(Z)V"⟩
abbrev cX5_swapHeads : ByteArray := prog_1_method_32_code
def yX5_swapHeads : MethodName := ⟨RX5, "swapHeads", "()V"⟩
abbrev cX5_chooseHead : ByteArray := prog_1_method_33_code
def yX5_chooseHead : MethodName := ⟨RX5, "chooseHead", "()V"⟩
abbrev cX5_firstWrongBlock : ByteArray := prog_1_method_34_code
def yX5_firstWrongBlock : MethodName := ⟨RX5, "firstWrongBlock", "()I"⟩
abbrev cX5_isFileBlock : ByteArray := prog_1_method_35_code
def yX5_isFileBlock : MethodName := ⟨RX5, "isFileBlock", "(II)Z"⟩
abbrev cX5_readFile : ByteArray := prog_1_method_36_code
def yX5_readFile : MethodName := ⟨RX5, "readFile", "(I)V"⟩
abbrev cX5_readRecord : ByteArray := prog_1_method_37_code
def yX5_readRecord : MethodName := ⟨RX5, "readRecord", "(III)V"⟩
abbrev cX5_replayLog : ByteArray := prog_1_method_38_code
def yX5_replayLog : MethodName := ⟨RX5, "replayLog", "()V"⟩
abbrev cX5_nextLogBlock : ByteArray := prog_1_method_39_code
def yX5_nextLogBlock : MethodName := ⟨RX5, "nextLogBlock", "()I"⟩
abbrev cX5_readLogBlock : ByteArray := prog_1_method_40_code
def yX5_readLogBlock : MethodName := ⟨RX5, "readLogBlock", "(I)V"⟩
abbrev cX5_wipeOldLog : ByteArray := prog_1_method_41_code
def yX5_wipeOldLog : MethodName := ⟨RX5, "wipeOldLog", "()V"⟩
def RX6 : String := "SegmentLogModel"
def TX6 : u_T := fun k => match k with
  | 0 => ("SegmentLogModel", "blocks", "I", false)
  | 1 => ("SegmentLogModel", "disk", "[B", true)
  | 2 => ("SegmentLogModel", "queued", "I", false)
  | 3 => ("SegmentLogModel", "queue", "[I", true)
  | 4 => ("SegmentLogModel", "written", "[B", true)
  | 5 => ("SegmentLogModel", "at", "I", false)
  | 6 => ("SegmentLogModel", "isOpen", "Z", false)
  | 7 => ("SegmentLogModel", "records", "I", false)
  | 8 => ("SegmentLogModel", "key", "[J", true)
  | 9 => ("SegmentLogModel", "value", "[J", true)
  | 10 => ("SegmentLogModel", "files", "I", false)
  | 11 => ("SegmentLogModel", "fileNumber", "[I", true)
  | 12 => ("SegmentLogModel", "fileFirst", "[I", true)
  | 13 => ("SegmentLogModel", "fileBlocks", "[I", true)
  | 14 => ("SegmentLogModel", "fileRecords", "[I", true)
  | 15 => ("SegmentLogModel", "logs", "I", false)
  | 16 => ("SegmentLogModel", "logBlock", "[I", true)
  | 17 => ("SegmentLogModel", "logRecords", "[I", true)
  | 18 => ("SegmentLogModel", "waiting", "I", false)
  | 19 => ("SegmentLogModel", "generation", "J", false)
  | 20 => ("SegmentLogModel", "next", "J", false)
  | _ => ("SegmentLogModel", "latest", "I", false)
def tyX6 : Nat → FieldType := fun k => match k with
  | 0 => .int
  | 1 => .array .byte
  | 2 => .int
  | 3 => .array .int
  | 4 => .array .byte
  | 5 => .int
  | 6 => .boolean
  | 7 => .int
  | 8 => .array .long
  | 9 => .array .long
  | 10 => .int
  | 11 => .array .int
  | 12 => .array .int
  | 13 => .array .int
  | 14 => .array .int
  | 15 => .int
  | 16 => .array .int
  | 17 => .array .int
  | 18 => .int
  | 19 => .long
  | 20 => .long
  | _ => .int
abbrev wsX60 : List Cond := u_ws RX6 TX6 22
theorem nmX6 : ∀ a, a < 22 → ∀ b, b < 22 → a ≠ b → (TX6 a).2.1 ≠ (TX6 b).2.1 := by decide +kernel
theorem tyX6_ok : ∀ k, k < 22 → parseFieldDescriptor (TX6 k).2.2.1 = some (tyX6 k) := by decide +kernel
abbrev cX6_init : ByteArray := prog_8_method_1_code
def yX6_init : MethodName := ⟨RX6, "<init>", "()V"⟩
abbrev cX6_isIn : ByteArray := prog_8_method_2_code
def yX6_isIn : MethodName := ⟨RX6, "isIn", "(JJJ)Z"⟩
abbrev cX6_sumOf : ByteArray := prog_8_method_3_code
def yX6_sumOf : MethodName := ⟨RX6, "sumOf", "([BII)J"⟩
abbrev cX6_number : ByteArray := prog_8_method_4_code
def yX6_number : MethodName := ⟨RX6, "number", "([BII)J"⟩
abbrev cX6_isWhole : ByteArray := prog_8_method_5_code
def yX6_isWhole : MethodName := ⟨RX6, "isWhole", "(I)Z"⟩
abbrev cX6_begin : ByteArray := prog_8_method_6_code
def yX6_begin : MethodName := ⟨RX6, "begin", "(I)V"⟩
abbrev cX6_put : ByteArray := prog_8_method_7_code
def yX6_put : MethodName := ⟨RX6, "put", "(IJI)V"⟩
abbrev cX6_end : ByteArray := prog_8_method_8_code
def yX6_end : MethodName := ⟨RX6, "end", "()V"⟩
abbrev cX6_pours : ByteArray := prog_8_method_9_code
def yX6_pours : MethodName := ⟨RX6, "pours", "(J)I"⟩
abbrev cX6_forget : ByteArray := prog_8_method_10_code
def yX6_forget : MethodName := ⟨RX6, "forget", "()V"⟩
abbrev cX6_format : ByteArray := prog_8_method_11_code
def yX6_format : MethodName := ⟨RX6, "format", "(I)I"⟩
abbrev cX6_isOfFiles : ByteArray := prog_8_method_12_code
def yX6_isOfFiles : MethodName := ⟨RX6, "isOfFiles", "(I)Z"⟩
abbrev cX6_useOf : ByteArray := prog_8_method_13_code
def yX6_useOf : MethodName := ⟨RX6, "useOf", "(I)I"⟩
abbrev cX6_free : ByteArray := prog_8_method_14_code
def yX6_free : MethodName := ⟨RX6, "free", "(I)I"⟩
abbrev cX6_inFiles : ByteArray := prog_8_method_15_code
def yX6_inFiles : MethodName := ⟨RX6, "inFiles", "()I"⟩
abbrev cX6_writesLog : ByteArray := prog_8_method_16_code
def yX6_writesLog : MethodName := ⟨RX6, "writesLog", "()Z"⟩
abbrev cX6_add : ByteArray := prog_8_method_17_code
def yX6_add : MethodName := ⟨RX6, "add", "(JJ)I"⟩
abbrev cX6_flush : ByteArray := prog_8_method_18_code
def yX6_flush : MethodName := ⟨RX6, "flush", "()I"⟩
abbrev cX6_sync : ByteArray := prog_8_method_19_code
def yX6_sync : MethodName := ⟨RX6, "sync", "()I"⟩
abbrev cX6_sort : ByteArray := prog_8_method_20_code
def yX6_sort : MethodName := ⟨RX6, "sort", "(I)V"⟩
abbrev cX6_commit : ByteArray := prog_8_method_21_code
def yX6_commit : MethodName := ⟨RX6, "commit", "(I)I"⟩
abbrev cX6_writesFile : ByteArray := prog_8_method_22_code
def yX6_writesFile : MethodName := ⟨RX6, "writesFile", "(IIIII)V"⟩
abbrev cX6_writesHead : ByteArray := prog_8_method_23_code
def yX6_writesHead : MethodName := ⟨RX6, "writesHead", "(I)V"⟩
abbrev cX6_closes : ByteArray := prog_8_method_24_code
def yX6_closes : MethodName := ⟨RX6, "closes", "()V"⟩
abbrev cX6_crash : ByteArray := prog_8_method_25_code
def yX6_crash : MethodName := ⟨RX6, "crash", "(I)I"⟩
abbrev cX6_isHead : ByteArray := prog_8_method_26_code
def yX6_isHead : MethodName := ⟨RX6, "isHead", "(I)Z"⟩
abbrev cX6_isFile : ByteArray := prog_8_method_27_code
def yX6_isFile : MethodName := ⟨RX6, "isFile", "(III)Z"⟩
abbrev cX6_reads : ByteArray := prog_8_method_28_code
def yX6_reads : MethodName := ⟨RX6, "reads", "(II)V"⟩
abbrev cX6_isFileBlock : ByteArray := prog_8_method_29_code
def yX6_isFileBlock : MethodName := ⟨RX6, "isFileBlock", "(II)Z"⟩
abbrev cX6_open : ByteArray := prog_8_method_30_code
def yX6_open : MethodName := ⟨RX6, "open", "()I"⟩
abbrev cX6_readsFiles : ByteArray := prog_8_method_31_code
def yX6_readsFiles : MethodName := ⟨RX6, "readsFiles", "(I)I"⟩
abbrev cX6_isLog : ByteArray := prog_8_method_32_code
def yX6_isLog : MethodName := ⟨RX6, "isLog", "(I)Z"⟩
abbrev cX6_readsLogs : ByteArray := prog_8_method_33_code
def yX6_readsLogs : MethodName := ⟨RX6, "readsLogs", "()V"⟩
abbrev cX6_isQueued : ByteArray := prog_8_method_34_code
def yX6_isQueued : MethodName := ⟨RX6, "isQueued", "(I)Z"⟩
abbrev cX6_acknowledged : ByteArray := prog_8_method_35_code
def yX6_acknowledged : MethodName := ⟨RX6, "acknowledged", "()I"⟩
abbrev cX6_get : ByteArray := prog_8_method_36_code
def yX6_get : MethodName := ⟨RX6, "get", "(J)J"⟩
abbrev cX6_times : ByteArray := prog_8_method_37_code
def yX6_times : MethodName := ⟨RX6, "times", "(J)I"⟩
abbrev cX6_record : ByteArray := prog_8_method_38_code
def yX6_record : MethodName := ⟨RX6, "record", "(II)J"⟩
abbrev cX6_file : ByteArray := prog_8_method_39_code
def yX6_file : MethodName := ⟨RX6, "file", "(II)I"⟩
abbrev cX6_use : ByteArray := prog_8_method_40_code
def yX6_use : MethodName := ⟨RX6, "use", "(I)I"⟩
abbrev cX6_octet : ByteArray := prog_8_method_41_code
def yX6_octet : MethodName := ⟨RX6, "octet", "(II)I"⟩
abbrev cX6_poke : ByteArray := prog_8_method_42_code
def yX6_poke : MethodName := ⟨RX6, "poke", "(III)I"⟩
abbrev cX6_bad : ByteArray := prog_8_method_43_code
def yX6_bad : MethodName := ⟨RX6, "bad", "()I"⟩
abbrev cX6_queued : ByteArray := prog_8_method_44_code
def yX6_queued : MethodName := ⟨RX6, "queued", "(I)I"⟩
abbrev cX6_count : ByteArray := prog_8_method_45_code
def yX6_count : MethodName := ⟨RX6, "count", "(I)I"⟩
abbrev vwCl : List vw_C := [(RX0, TX0, 2), (RX1, TX1, 4), (RX2, TX2, 3), (RX3, TX3, 4), (RX4, TX4, 2), (RX5, TX5, 11), (RX6, TX6, 22)]
/-- the tables' words that last: what every method here takes as given -/
def TB : List Cond := lw_tbl.filter goodWord
theorem tbX {w : Cond} (i : Nat) (h : lw_tbl[i]? = some w) (hg : goodWord w = true) : w ∈ TB := List.mem_filter.mpr ⟨List.mem_of_getElem? h, hg⟩
theorem tb_good {w : Cond} (h : w ∈ TB) : (w.onTables && w.keeps) = true ∨ ∃ ty, w = .arrayClass ty := good_of_word (List.mem_filter.mp h).2
theorem tbG {c b : Cond} (hb : b ∈ TB) : GoodIn (c :: TB) (b :: TB) := fun w hw => (List.mem_cons.mp hw).elim (fun e => e ▸ ⟨List.mem_cons_of_mem _ hb, tb_good hb⟩) (fun h => ⟨List.mem_cons_of_mem _ h, tb_good h⟩)
theorem tbA {c : Cond} {l ws : List Cond} (h : ∀ w ∈ l, w ∈ TB) (hG : GoodIn (c :: TB) ws) : GoodIn (c :: TB) (l ++ ws) := fun w hw => (List.mem_append.mp hw).elim (fun e => ⟨List.mem_cons_of_mem _ (h w e), tb_good (h w e)⟩) (hG w)
theorem tbV {c b : Cond} {own : String} {idx : Nat} {C : String} {y : MethodName} (h1 : .methodLink own idx y ∈ TB) (h2 : .instanceMethod y ∈ TB) (h3 : .selects C y y ∈ TB) (h4 : .initialized C ∈ TB) (hb : b ∈ TB) : GoodIn (c :: TB) (wsV own idx C y (b :: TB)) := tbA (fun w hw => by
  rcases List.mem_cons.mp hw with rfl | hw
  · exact h1
  rcases List.mem_cons.mp hw with rfl | hw
  · exact h2
  rcases List.mem_cons.mp hw with rfl | hw
  · exact h3
  rcases List.mem_cons.mp hw with rfl | hw
  · exact h4
  · cases hw) (tbG hb)
theorem tbS {c b : Cond} {own : String} {idx : Nat} {y : MethodName} (h1 : .methodLink own idx y ∈ TB) (h2 : .static y ∈ TB) (h4 : .initialized y.cls ∈ TB) (hb : b ∈ TB) : GoodIn (c :: TB) (va_wsS own idx y (b :: TB)) := tbA (fun w hw => by
  rcases List.mem_cons.mp hw with rfl | hw
  · exact h1
  rcases List.mem_cons.mp hw with rfl | hw
  · exact h2
  rcases List.mem_cons.mp hw with rfl | hw
  · exact h4
  · cases hw) (tbG hb)
theorem inX0 : ∀ w ∈ wsX00, w ∈ TB := fun w h => List.mem_filter.mpr ⟨(by decide +kernel : ∀ w ∈ wsX00, w ∈ lw_tbl) w h, (by decide +kernel : ∀ w ∈ wsX00, goodWord w = true) w h⟩
theorem inX1 : ∀ w ∈ wsX10, w ∈ TB := fun w h => List.mem_filter.mpr ⟨(by decide +kernel : ∀ w ∈ wsX10, w ∈ lw_tbl) w h, (by decide +kernel : ∀ w ∈ wsX10, goodWord w = true) w h⟩
theorem inX2 : ∀ w ∈ wsX20, w ∈ TB := fun w h => List.mem_filter.mpr ⟨(by decide +kernel : ∀ w ∈ wsX20, w ∈ lw_tbl) w h, (by decide +kernel : ∀ w ∈ wsX20, goodWord w = true) w h⟩
theorem inX3 : ∀ w ∈ wsX30, w ∈ TB := fun w h => List.mem_filter.mpr ⟨(by decide +kernel : ∀ w ∈ wsX30, w ∈ lw_tbl) w h, (by decide +kernel : ∀ w ∈ wsX30, goodWord w = true) w h⟩
theorem inX4 : ∀ w ∈ wsX40, w ∈ TB := fun w h => List.mem_filter.mpr ⟨(by decide +kernel : ∀ w ∈ wsX40, w ∈ lw_tbl) w h, (by decide +kernel : ∀ w ∈ wsX40, goodWord w = true) w h⟩
theorem inX5 : ∀ w ∈ wsX50, w ∈ TB := fun w h => List.mem_filter.mpr ⟨(by decide +kernel : ∀ w ∈ wsX50, w ∈ lw_tbl) w h, (by decide +kernel : ∀ w ∈ wsX50, goodWord w = true) w h⟩
theorem inX6 : ∀ w ∈ wsX60, w ∈ TB := fun w h => List.mem_filter.mpr ⟨(by decide +kernel : ∀ w ∈ wsX60, w ∈ lw_tbl) w h, (by decide +kernel : ∀ w ∈ wsX60, goodWord w = true) w h⟩
end
section
theorem tw_0 : Cond.selects RX4 yX4_clear yX4_clear ∈ TB := tbX 0 (by decide +kernel) (by decide +kernel)
theorem tw_1 : Cond.selects RX4 yX4_mark yX4_mark ∈ TB := tbX 1 (by decide +kernel) (by decide +kernel)
theorem tw_2 : Cond.selects RX1 yX1_clear yX1_clear ∈ TB := tbX 2 (by decide +kernel) (by decide +kernel)
theorem tw_3 : Cond.selects RX0 yX0_renew yX0_renew ∈ TB := tbX 3 (by decide +kernel) (by decide +kernel)
theorem tw_4 : Cond.selects RX0 yX0_wipe yX0_wipe ∈ TB := tbX 4 (by decide +kernel) (by decide +kernel)
theorem tw_5 : Cond.selects RX0 yX0_put yX0_put ∈ TB := tbX 5 (by decide +kernel) (by decide +kernel)
theorem tw_6 : Cond.selects RX0 yX0_has yX0_has ∈ TB := tbX 6 (by decide +kernel) (by decide +kernel)
theorem tw_7 : Cond.selects RX5 yX5_forget yX5_forget ∈ TB := tbX 7 (by decide +kernel) (by decide +kernel)
theorem tw_8 : Cond.selects RX2 yX2_clear yX2_clear ∈ TB := tbX 8 (by decide +kernel) (by decide +kernel)
theorem tw_9 : Cond.selects RX3 yX3_clear yX3_clear ∈ TB := tbX 9 (by decide +kernel) (by decide +kernel)
theorem tw_10 : Cond.selects RX4 yX4_leastFree yX4_leastFree ∈ TB := tbX 10 (by decide +kernel) (by decide +kernel)
theorem tw_11 : Cond.selects RX4 yX4_leastRun yX4_leastRun ∈ TB := tbX 11 (by decide +kernel) (by decide +kernel)
theorem tw_12 : Cond.selects RX3 yX3_insert yX3_insert ∈ TB := tbX 12 (by decide +kernel) (by decide +kernel)
theorem tw_13 : Cond.selects RX3 yX3_upTo yX3_upTo ∈ TB := tbX 13 (by decide +kernel) (by decide +kernel)
theorem tw_14 : Cond.selects RX5 yX5_queueLog yX5_queueLog ∈ TB := tbX 14 (by decide +kernel) (by decide +kernel)
theorem tw_15 : Cond.selects RX2 yX2_append yX2_append ∈ TB := tbX 15 (by decide +kernel) (by decide +kernel)
theorem tw_16 : Cond.selects RX0 yX0_putNumber yX0_putNumber ∈ TB := tbX 16 (by decide +kernel) (by decide +kernel)
theorem tw_17 : Cond.selects RX3 yX3_withSequence yX3_withSequence ∈ TB := tbX 17 (by decide +kernel) (by decide +kernel)
theorem tw_18 : Cond.selects RX5 yX5_queueRecord yX5_queueRecord ∈ TB := tbX 18 (by decide +kernel) (by decide +kernel)
theorem tw_19 : Cond.selects RX3 yX3_key yX3_key ∈ TB := tbX 19 (by decide +kernel) (by decide +kernel)
theorem tw_20 : Cond.selects RX3 yX3_has yX3_has ∈ TB := tbX 20 (by decide +kernel) (by decide +kernel)
theorem tw_21 : Cond.selects RX3 yX3_value yX3_value ∈ TB := tbX 21 (by decide +kernel) (by decide +kernel)
theorem tw_22 : Cond.selects RX2 yX2_seal yX2_seal ∈ TB := tbX 22 (by decide +kernel) (by decide +kernel)
theorem tw_23 : Cond.selects RX2 yX2_target yX2_target ∈ TB := tbX 23 (by decide +kernel) (by decide +kernel)
theorem tw_24 : Cond.selects RX0 yX0_sum yX0_sum ∈ TB := tbX 24 (by decide +kernel) (by decide +kernel)
theorem tw_25 : Cond.selects RX0 yX0_value yX0_value ∈ TB := tbX 25 (by decide +kernel) (by decide +kernel)
theorem tw_26 : Cond.selects RX2 yX2_bytes yX2_bytes ∈ TB := tbX 26 (by decide +kernel) (by decide +kernel)
theorem tw_27 : Cond.selects RX2 yX2_drain yX2_drain ∈ TB := tbX 27 (by decide +kernel) (by decide +kernel)
theorem tw_28 : Cond.selects RX5 yX5_planHead yX5_planHead ∈ TB := tbX 28 (by decide +kernel) (by decide +kernel)
theorem tw_29 : Cond.selects RX1 yX1_appendAll yX1_appendAll ∈ TB := tbX 29 (by decide +kernel) (by decide +kernel)
theorem tw_30 : Cond.selects RX1 yX1_field yX1_field ∈ TB := tbX 30 (by decide +kernel) (by decide +kernel)
theorem tw_31 : Cond.selects RX1 yX1_append yX1_append ∈ TB := tbX 31 (by decide +kernel) (by decide +kernel)
theorem tw_32 : Cond.selects RX5 yX5_queueFile yX5_queueFile ∈ TB := tbX 32 (by decide +kernel) (by decide +kernel)
theorem tw_33 : Cond.selects RX3 yX3_sequence yX3_sequence ∈ TB := tbX 33 (by decide +kernel) (by decide +kernel)
theorem tw_34 : Cond.selects RX5 yX5_queueHead yX5_queueHead ∈ TB := tbX 34 (by decide +kernel) (by decide +kernel)
theorem tw_35 : Cond.selects RX5 yX5_takePlannedHead yX5_takePlannedHead ∈ TB := tbX 35 (by decide +kernel) (by decide +kernel)
theorem tw_36 : Cond.selects RX5 yX5_swapHeads yX5_swapHeads ∈ TB := tbX 36 (by decide +kernel) (by decide +kernel)
theorem tw_37 : Cond.selects RX4 yX4_turn yX4_turn ∈ TB := tbX 37 (by decide +kernel) (by decide +kernel)
theorem tw_38 : Cond.selects RX3 yX3_settle yX3_settle ∈ TB := tbX 38 (by decide +kernel) (by decide +kernel)
theorem tw_39 : Cond.selects RX5 yX5_chooseHead yX5_chooseHead ∈ TB := tbX 39 (by decide +kernel) (by decide +kernel)
theorem tw_40 : Cond.selects RX1 yX1_read yX1_read ∈ TB := tbX 40 (by decide +kernel) (by decide +kernel)
theorem tw_41 : Cond.selects RX0 yX0_isWhole yX0_isWhole ∈ TB := tbX 41 (by decide +kernel) (by decide +kernel)
theorem tw_42 : Cond.selects RX0 yX0_number yX0_number ∈ TB := tbX 42 (by decide +kernel) (by decide +kernel)
theorem tw_43 : Cond.selects RX1 yX1_readFiles yX1_readFiles ∈ TB := tbX 43 (by decide +kernel) (by decide +kernel)
theorem tw_44 : Cond.selects RX1 yX1_overlaps yX1_overlaps ∈ TB := tbX 44 (by decide +kernel) (by decide +kernel)
theorem tw_45 : Cond.selects RX5 yX5_firstWrongBlock yX5_firstWrongBlock ∈ TB := tbX 45 (by decide +kernel) (by decide +kernel)
theorem tw_46 : Cond.selects RX5 yX5_isFileBlock yX5_isFileBlock ∈ TB := tbX 46 (by decide +kernel) (by decide +kernel)
theorem tw_47 : Cond.selects RX5 yX5_readFile yX5_readFile ∈ TB := tbX 47 (by decide +kernel) (by decide +kernel)
theorem tw_48 : Cond.selects RX5 yX5_readRecord yX5_readRecord ∈ TB := tbX 48 (by decide +kernel) (by decide +kernel)
theorem tw_49 : Cond.selects RX5 yX5_replayLog yX5_replayLog ∈ TB := tbX 49 (by decide +kernel) (by decide +kernel)
theorem tw_50 : Cond.selects RX4 yX4_of yX4_of ∈ TB := tbX 50 (by decide +kernel) (by decide +kernel)
theorem tw_51 : Cond.selects RX5 yX5_nextLogBlock yX5_nextLogBlock ∈ TB := tbX 51 (by decide +kernel) (by decide +kernel)
theorem tw_52 : Cond.selects RX5 yX5_readLogBlock yX5_readLogBlock ∈ TB := tbX 52 (by decide +kernel) (by decide +kernel)
theorem tw_53 : Cond.selects RX5 yX5_wipeOldLog yX5_wipeOldLog ∈ TB := tbX 53 (by decide +kernel) (by decide +kernel)
theorem tw_54 : Cond.selects RX3 yX3_below yX3_below ∈ TB := tbX 54 (by decide +kernel) (by decide +kernel)
theorem tw_55 : Cond.selects RX5 yX5_placeOf yX5_placeOf ∈ TB := tbX 55 (by decide +kernel) (by decide +kernel)
theorem tw_56 : Cond.selects RX5 yX5_shouldBeWhole yX5_shouldBeWhole ∈ TB := tbX 56 (by decide +kernel) (by decide +kernel)
theorem tw_57 : Cond.selects RX2 yX2_holds yX2_holds ∈ TB := tbX 57 (by decide +kernel) (by decide +kernel)
theorem tw_58 : Cond.selects RX5 yX5_countOpen yX5_countOpen ∈ TB := tbX 58 (by decide +kernel) (by decide +kernel)
theorem tw_59 : Cond.selects RX4 yX4_howMany yX4_howMany ∈ TB := tbX 59 (by decide +kernel) (by decide +kernel)
theorem tw_60 : Cond.selects RX6 yX6_forget yX6_forget ∈ TB := tbX 60 (by decide +kernel) (by decide +kernel)
theorem tw_61 : Cond.selects RX6 yX6_free yX6_free ∈ TB := tbX 61 (by decide +kernel) (by decide +kernel)
theorem tw_62 : Cond.selects RX6 yX6_useOf yX6_useOf ∈ TB := tbX 62 (by decide +kernel) (by decide +kernel)
theorem tw_63 : Cond.selects RX6 yX6_isOfFiles yX6_isOfFiles ∈ TB := tbX 63 (by decide +kernel) (by decide +kernel)
theorem tw_64 : Cond.selects RX6 yX6_writesLog yX6_writesLog ∈ TB := tbX 64 (by decide +kernel) (by decide +kernel)
theorem tw_65 : Cond.selects RX6 yX6_begin yX6_begin ∈ TB := tbX 65 (by decide +kernel) (by decide +kernel)
theorem tw_66 : Cond.selects RX6 yX6_put yX6_put ∈ TB := tbX 66 (by decide +kernel) (by decide +kernel)
theorem tw_67 : Cond.selects RX6 yX6_end yX6_end ∈ TB := tbX 67 (by decide +kernel) (by decide +kernel)
theorem tw_68 : Cond.selects RX6 yX6_pours yX6_pours ∈ TB := tbX 68 (by decide +kernel) (by decide +kernel)
theorem tw_69 : Cond.selects RX6 yX6_inFiles yX6_inFiles ∈ TB := tbX 69 (by decide +kernel) (by decide +kernel)
theorem tw_70 : Cond.selects RX6 yX6_sort yX6_sort ∈ TB := tbX 70 (by decide +kernel) (by decide +kernel)
theorem tw_71 : Cond.selects RX6 yX6_writesFile yX6_writesFile ∈ TB := tbX 71 (by decide +kernel) (by decide +kernel)
theorem tw_72 : Cond.selects RX6 yX6_writesHead yX6_writesHead ∈ TB := tbX 72 (by decide +kernel) (by decide +kernel)
theorem tw_73 : Cond.selects RX6 yX6_closes yX6_closes ∈ TB := tbX 73 (by decide +kernel) (by decide +kernel)
theorem tw_74 : Cond.selects RX6 yX6_isHead yX6_isHead ∈ TB := tbX 74 (by decide +kernel) (by decide +kernel)
theorem tw_75 : Cond.selects RX6 yX6_isWhole yX6_isWhole ∈ TB := tbX 75 (by decide +kernel) (by decide +kernel)
theorem tw_76 : Cond.selects RX6 yX6_isFile yX6_isFile ∈ TB := tbX 76 (by decide +kernel) (by decide +kernel)
theorem tw_77 : Cond.selects RX6 yX6_readsFiles yX6_readsFiles ∈ TB := tbX 77 (by decide +kernel) (by decide +kernel)
theorem tw_78 : Cond.selects RX6 yX6_isFileBlock yX6_isFileBlock ∈ TB := tbX 78 (by decide +kernel) (by decide +kernel)
theorem tw_79 : Cond.selects RX6 yX6_reads yX6_reads ∈ TB := tbX 79 (by decide +kernel) (by decide +kernel)
theorem tw_80 : Cond.selects RX6 yX6_readsLogs yX6_readsLogs ∈ TB := tbX 80 (by decide +kernel) (by decide +kernel)
theorem tw_81 : Cond.selects RX6 yX6_isLog yX6_isLog ∈ TB := tbX 81 (by decide +kernel) (by decide +kernel)
theorem tw_82 : Cond.selects RX6 yX6_isQueued yX6_isQueued ∈ TB := tbX 82 (by decide +kernel) (by decide +kernel)
theorem tw_83 : Cond.initialized RL ∈ TB := tbX 83 (by decide +kernel) (by decide +kernel)
theorem tw_84 : Cond.initialized RX5 ∈ TB := tbX 84 (by decide +kernel) (by decide +kernel)
theorem tw_85 : Cond.initialized RX0 ∈ TB := tbX 85 (by decide +kernel) (by decide +kernel)
theorem tw_86 : Cond.initialized RX4 ∈ TB := tbX 86 (by decide +kernel) (by decide +kernel)
theorem tw_87 : Cond.initialized "java/lang/Math" ∈ TB := tbX 87 (by decide +kernel) (by decide +kernel)
theorem tw_88 : Cond.initialized RX2 ∈ TB := tbX 88 (by decide +kernel) (by decide +kernel)
theorem tw_89 : Cond.initialized RX3 ∈ TB := tbX 89 (by decide +kernel) (by decide +kernel)
theorem tw_90 : Cond.initialized RX1 ∈ TB := tbX 90 (by decide +kernel) (by decide +kernel)
theorem tw_91 : Cond.initialized RX6 ∈ TB := tbX 91 (by decide +kernel) (by decide +kernel)
theorem tw_92 : Cond.classLink RL 7 RX5 ∈ TB := tbX 92 (by decide +kernel) (by decide +kernel)
theorem tw_93 : Cond.instantiable RX5 11 ∈ TB := tbX 93 (by decide +kernel) (by decide +kernel)
theorem tw_94 : Cond.methodLink RL 9 yX5_init ∈ TB := tbX 94 (by decide +kernel) (by decide +kernel)
theorem tw_95 : Cond.instanceMethod yX5_init ∈ TB := tbX 95 (by decide +kernel) (by decide +kernel)
theorem tw_96 : Cond.code yX5_init cX5_init 1 none ∈ TB := tbX 96 (by decide +kernel) (by decide +kernel)
theorem tw_97 : Cond.methodLink RX5 3 objectInit ∈ TB := tbX 97 (by decide +kernel) (by decide +kernel)
theorem tw_98 : Cond.instanceMethod objectInit ∈ TB := tbX 98 (by decide +kernel) (by decide +kernel)
theorem tw_99 : Cond.code objectInit ⟨#[0xb1]⟩ 1 none ∈ TB := tbX 99 (by decide +kernel) (by decide +kernel)
theorem tw_100 : Cond.classLink RX5 9 RX0 ∈ TB := tbX 100 (by decide +kernel) (by decide +kernel)
theorem tw_101 : Cond.instantiable RX0 2 ∈ TB := tbX 101 (by decide +kernel) (by decide +kernel)
theorem tw_103 : Cond.instanceMethod yX0_init ∈ TB := tbX 103 (by decide +kernel) (by decide +kernel)
theorem tw_104 : Cond.code yX0_init cX0_init 2 none ∈ TB := tbX 104 (by decide +kernel) (by decide +kernel)
theorem tw_105 : Cond.methodLink RX0 3 objectInit ∈ TB := tbX 105 (by decide +kernel) (by decide +kernel)
theorem tw_106 : Cond.fieldLink RX0 9 "SegmentLog$Blocks" "bytes" "[B" ∈ TB := tbX 106 (by decide +kernel) (by decide +kernel)
theorem tw_107 : Cond.fieldLink RX0 15 "SegmentLog$Blocks" "size" "I" ∈ TB := tbX 107 (by decide +kernel) (by decide +kernel)
theorem tw_116 : Cond.classLink RX5 18 RX4 ∈ TB := tbX 116 (by decide +kernel) (by decide +kernel)
theorem tw_117 : Cond.instantiable RX4 2 ∈ TB := tbX 117 (by decide +kernel) (by decide +kernel)
theorem tw_119 : Cond.instanceMethod yX4_init ∈ TB := tbX 119 (by decide +kernel) (by decide +kernel)
theorem tw_120 : Cond.code yX4_init cX4_init 2 none ∈ TB := tbX 120 (by decide +kernel) (by decide +kernel)
theorem tw_121 : Cond.methodLink RX4 3 objectInit ∈ TB := tbX 121 (by decide +kernel) (by decide +kernel)
theorem tw_122 : Cond.methodLink RX4 15 yX4_clear ∈ TB := tbX 122 (by decide +kernel) (by decide +kernel)
theorem tw_124 : Cond.instanceMethod yX4_clear ∈ TB := tbX 124 (by decide +kernel) (by decide +kernel)
theorem tw_125 : Cond.code yX4_clear cX4_clear 2 none ∈ TB := tbX 125 (by decide +kernel) (by decide +kernel)
theorem tw_126 : Cond.methodLink RX4 19 Lib.Math.min.name ∈ TB := tbX 126 (by decide +kernel) (by decide +kernel)
theorem tw_127 : Cond.static Lib.Math.min.name ∈ TB := tbX 127 (by decide +kernel) (by decide +kernel)
theorem tw_128 : Cond.code Lib.Math.min.name Lib.Math.min.code 2 (some .int) ∈ TB := tbX 128 (by decide +kernel) (by decide +kernel)
theorem tw_129 : Cond.methodLink RX4 29 yX4_mark ∈ TB := tbX 129 (by decide +kernel) (by decide +kernel)
theorem tw_131 : Cond.instanceMethod yX4_mark ∈ TB := tbX 131 (by decide +kernel) (by decide +kernel)
theorem tw_132 : Cond.code yX4_mark cX4_mark 6 none ∈ TB := tbX 132 (by decide +kernel) (by decide +kernel)
theorem tw_133 : Cond.fieldLink RX4 9 "SegmentLog$Uses" "uses" "[I" ∈ TB := tbX 133 (by decide +kernel) (by decide +kernel)
theorem tw_134 : Cond.fieldLink RX4 25 "SegmentLog$Uses" "size" "I" ∈ TB := tbX 134 (by decide +kernel) (by decide +kernel)
theorem tw_141 : Cond.classLink RX5 25 RX2 ∈ TB := tbX 141 (by decide +kernel) (by decide +kernel)
theorem tw_142 : Cond.instantiable RX2 3 ∈ TB := tbX 142 (by decide +kernel) (by decide +kernel)
theorem tw_144 : Cond.instanceMethod yX2_init ∈ TB := tbX 144 (by decide +kernel) (by decide +kernel)
theorem tw_145 : Cond.code yX2_init cX2_init 1 none ∈ TB := tbX 145 (by decide +kernel) (by decide +kernel)
theorem tw_146 : Cond.methodLink RX2 3 objectInit ∈ TB := tbX 146 (by decide +kernel) (by decide +kernel)
theorem tw_147 : Cond.classLink RX2 9 RX0 ∈ TB := tbX 147 (by decide +kernel) (by decide +kernel)
theorem tw_149 : Cond.fieldLink RX2 14 "SegmentLog$Queue" "images" "LSegmentLog$Blocks;" ∈ TB := tbX 149 (by decide +kernel) (by decide +kernel)
theorem tw_151 : Cond.fieldLink RX2 20 "SegmentLog$Queue" "targets" "[I" ∈ TB := tbX 151 (by decide +kernel) (by decide +kernel)
theorem tw_152 : Cond.fieldLink RX2 24 "SegmentLog$Queue" "size" "I" ∈ TB := tbX 152 (by decide +kernel) (by decide +kernel)
theorem tw_161 : Cond.classLink RX5 32 RX3 ∈ TB := tbX 161 (by decide +kernel) (by decide +kernel)
theorem tw_162 : Cond.instantiable RX3 4 ∈ TB := tbX 162 (by decide +kernel) (by decide +kernel)
theorem tw_164 : Cond.instanceMethod yX3_init ∈ TB := tbX 164 (by decide +kernel) (by decide +kernel)
theorem tw_165 : Cond.code yX3_init cX3_init 1 none ∈ TB := tbX 165 (by decide +kernel) (by decide +kernel)
theorem tw_166 : Cond.methodLink RX3 3 objectInit ∈ TB := tbX 166 (by decide +kernel) (by decide +kernel)
theorem tw_167 : Cond.fieldLink RX3 9 "SegmentLog$Table" "keys" "[J" ∈ TB := tbX 167 (by decide +kernel) (by decide +kernel)
theorem tw_168 : Cond.fieldLink RX3 15 "SegmentLog$Table" "values" "[J" ∈ TB := tbX 168 (by decide +kernel) (by decide +kernel)
theorem tw_169 : Cond.fieldLink RX3 18 "SegmentLog$Table" "sequences" "[I" ∈ TB := tbX 169 (by decide +kernel) (by decide +kernel)
theorem tw_170 : Cond.fieldLink RX3 22 "SegmentLog$Table" "size" "I" ∈ TB := tbX 170 (by decide +kernel) (by decide +kernel)
theorem tw_182 : Cond.classLink RX5 39 RX1 ∈ TB := tbX 182 (by decide +kernel) (by decide +kernel)
theorem tw_183 : Cond.instantiable RX1 4 ∈ TB := tbX 183 (by decide +kernel) (by decide +kernel)
theorem tw_185 : Cond.instanceMethod yX1_init ∈ TB := tbX 185 (by decide +kernel) (by decide +kernel)
theorem tw_186 : Cond.code yX1_init cX1_init 1 none ∈ TB := tbX 186 (by decide +kernel) (by decide +kernel)
theorem tw_187 : Cond.methodLink RX1 3 objectInit ∈ TB := tbX 187 (by decide +kernel) (by decide +kernel)
theorem tw_188 : Cond.methodLink RX1 15 yX1_clear ∈ TB := tbX 188 (by decide +kernel) (by decide +kernel)
theorem tw_190 : Cond.instanceMethod yX1_clear ∈ TB := tbX 190 (by decide +kernel) (by decide +kernel)
theorem tw_191 : Cond.code yX1_clear cX1_clear 1 none ∈ TB := tbX 191 (by decide +kernel) (by decide +kernel)
theorem tw_192 : Cond.fieldLink RX1 9 "SegmentLog$Head" "fields" "[I" ∈ TB := tbX 192 (by decide +kernel) (by decide +kernel)
theorem tw_193 : Cond.fieldLink RX1 18 "SegmentLog$Head" "files" "I" ∈ TB := tbX 193 (by decide +kernel) (by decide +kernel)
theorem tw_195 : Cond.fieldLink RX1 22 "SegmentLog$Head" "generation" "I" ∈ TB := tbX 195 (by decide +kernel) (by decide +kernel)
theorem tw_197 : Cond.fieldLink RX1 25 "SegmentLog$Head" "next" "I" ∈ TB := tbX 197 (by decide +kernel) (by decide +kernel)
theorem tw_208 : Cond.fieldLink RX5 14 "SegmentLog" "disk" "LSegmentLog$Blocks;" ∈ TB := tbX 208 (by decide +kernel) (by decide +kernel)
theorem tw_209 : Cond.fieldLink RX5 21 "SegmentLog" "uses" "LSegmentLog$Uses;" ∈ TB := tbX 209 (by decide +kernel) (by decide +kernel)
theorem tw_210 : Cond.fieldLink RX5 28 "SegmentLog" "queue" "LSegmentLog$Queue;" ∈ TB := tbX 210 (by decide +kernel) (by decide +kernel)
theorem tw_211 : Cond.fieldLink RX5 35 "SegmentLog" "table" "LSegmentLog$Table;" ∈ TB := tbX 211 (by decide +kernel) (by decide +kernel)
theorem tw_212 : Cond.fieldLink RX5 42 "SegmentLog" "head" "LSegmentLog$Head;" ∈ TB := tbX 212 (by decide +kernel) (by decide +kernel)
theorem tw_213 : Cond.fieldLink RX5 46 "SegmentLog" "spare" "LSegmentLog$Head;" ∈ TB := tbX 213 (by decide +kernel) (by decide +kernel)
theorem tw_214 : Cond.fieldLink RX5 49 "SegmentLog" "isOpen" "Z" ∈ TB := tbX 214 (by decide +kernel) (by decide +kernel)
theorem tw_215 : Cond.fieldLink RX5 53 "SegmentLog" "next" "I" ∈ TB := tbX 215 (by decide +kernel) (by decide +kernel)
theorem tw_216 : Cond.fieldLink RX5 66 "SegmentLog" "waiting" "I" ∈ TB := tbX 216 (by decide +kernel) (by decide +kernel)
theorem tw_217 : Cond.fieldLink RX5 80 "SegmentLog" "safe" "I" ∈ TB := tbX 217 (by decide +kernel) (by decide +kernel)
theorem tw_218 : Cond.fieldLink RX5 190 "SegmentLog" "latestFile" "I" ∈ TB := tbX 218 (by decide +kernel) (by decide +kernel)
theorem tw_242 : Cond.methodLink RL 13 yX5_format ∈ TB := tbX 242 (by decide +kernel) (by decide +kernel)
theorem tw_243 : Cond.instanceMethod yX5_format ∈ TB := tbX 243 (by decide +kernel) (by decide +kernel)
theorem tw_244 : Cond.selects RX5 yX5_format yX5_format ∈ TB := tbX 244 (by decide +kernel) (by decide +kernel)
theorem tw_245 : Cond.code yX5_format cX5_format 2 (some .int) ∈ TB := tbX 245 (by decide +kernel) (by decide +kernel)
theorem tw_248 : Cond.instanceMethod yX0_renew ∈ TB := tbX 248 (by decide +kernel) (by decide +kernel)
theorem tw_249 : Cond.code yX0_renew cX0_renew 3 none ∈ TB := tbX 249 (by decide +kernel) (by decide +kernel)
theorem tw_250 : Cond.methodLink RX0 19 yX0_wipe ∈ TB := tbX 250 (by decide +kernel) (by decide +kernel)
theorem tw_252 : Cond.instanceMethod yX0_wipe ∈ TB := tbX 252 (by decide +kernel) (by decide +kernel)
theorem tw_253 : Cond.code yX0_wipe cX0_wipe 3 none ∈ TB := tbX 253 (by decide +kernel) (by decide +kernel)
theorem tw_254 : Cond.methodLink RX0 33 yX0_put ∈ TB := tbX 254 (by decide +kernel) (by decide +kernel)
theorem tw_256 : Cond.instanceMethod yX0_put ∈ TB := tbX 256 (by decide +kernel) (by decide +kernel)
theorem tw_257 : Cond.code yX0_put cX0_put 4 none ∈ TB := tbX 257 (by decide +kernel) (by decide +kernel)
theorem tw_258 : Cond.methodLink RX0 23 yX0_has ∈ TB := tbX 258 (by decide +kernel) (by decide +kernel)
theorem tw_260 : Cond.instanceMethod yX0_has ∈ TB := tbX 260 (by decide +kernel) (by decide +kernel)
theorem tw_261 : Cond.code yX0_has cX0_has 3 (some .boolean) ∈ TB := tbX 261 (by decide +kernel) (by decide +kernel)
theorem tw_263 : Cond.methodLink RX5 63 yX5_forget ∈ TB := tbX 263 (by decide +kernel) (by decide +kernel)
theorem tw_265 : Cond.instanceMethod yX5_forget ∈ TB := tbX 265 (by decide +kernel) (by decide +kernel)
theorem tw_266 : Cond.code yX5_forget cX5_forget 1 none ∈ TB := tbX 266 (by decide +kernel) (by decide +kernel)
theorem tw_270 : Cond.instanceMethod yX2_clear ∈ TB := tbX 270 (by decide +kernel) (by decide +kernel)
theorem tw_271 : Cond.code yX2_clear cX2_clear 1 none ∈ TB := tbX 271 (by decide +kernel) (by decide +kernel)
theorem tw_274 : Cond.instanceMethod yX3_clear ∈ TB := tbX 274 (by decide +kernel) (by decide +kernel)
theorem tw_275 : Cond.code yX3_clear cX3_clear 1 none ∈ TB := tbX 275 (by decide +kernel) (by decide +kernel)
theorem tw_276 : Cond.methodLink RL 20 yX5_add ∈ TB := tbX 276 (by decide +kernel) (by decide +kernel)
theorem tw_277 : Cond.instanceMethod yX5_add ∈ TB := tbX 277 (by decide +kernel) (by decide +kernel)
theorem tw_278 : Cond.selects RX5 yX5_add yX5_add ∈ TB := tbX 278 (by decide +kernel) (by decide +kernel)
theorem tw_279 : Cond.code yX5_add cX5_add 7 (some .int) ∈ TB := tbX 279 (by decide +kernel) (by decide +kernel)
theorem tw_282 : Cond.instanceMethod yX4_leastFree ∈ TB := tbX 282 (by decide +kernel) (by decide +kernel)
theorem tw_283 : Cond.code yX4_leastFree cX4_leastFree 1 (some .int) ∈ TB := tbX 283 (by decide +kernel) (by decide +kernel)
theorem tw_284 : Cond.methodLink RX4 33 yX4_leastRun ∈ TB := tbX 284 (by decide +kernel) (by decide +kernel)
theorem tw_286 : Cond.instanceMethod yX4_leastRun ∈ TB := tbX 286 (by decide +kernel) (by decide +kernel)
theorem tw_287 : Cond.code yX4_leastRun cX4_leastRun 4 (some .int) ∈ TB := tbX 287 (by decide +kernel) (by decide +kernel)
theorem tw_290 : Cond.instanceMethod yX3_insert ∈ TB := tbX 290 (by decide +kernel) (by decide +kernel)
theorem tw_291 : Cond.code yX3_insert cX3_insert 8 none ∈ TB := tbX 291 (by decide +kernel) (by decide +kernel)
theorem tw_292 : Cond.methodLink RX3 30 yX3_upTo ∈ TB := tbX 292 (by decide +kernel) (by decide +kernel)
theorem tw_294 : Cond.instanceMethod yX3_upTo ∈ TB := tbX 294 (by decide +kernel) (by decide +kernel)
theorem tw_295 : Cond.code yX3_upTo cX3_upTo 5 (some .int) ∈ TB := tbX 295 (by decide +kernel) (by decide +kernel)
theorem tw_296 : Cond.methodLink RX5 77 yX5_queueLog ∈ TB := tbX 296 (by decide +kernel) (by decide +kernel)
theorem tw_298 : Cond.instanceMethod yX5_queueLog ∈ TB := tbX 298 (by decide +kernel) (by decide +kernel)
theorem tw_299 : Cond.code yX5_queueLog cX5_queueLog 5 none ∈ TB := tbX 299 (by decide +kernel) (by decide +kernel)
theorem tw_302 : Cond.instanceMethod yX2_append ∈ TB := tbX 302 (by decide +kernel) (by decide +kernel)
theorem tw_303 : Cond.code yX2_append cX2_append 5 (some .int) ∈ TB := tbX 303 (by decide +kernel) (by decide +kernel)
theorem tw_308 : Cond.instanceMethod yX0_putNumber ∈ TB := tbX 308 (by decide +kernel) (by decide +kernel)
theorem tw_309 : Cond.code yX0_putNumber cX0_putNumber 9 none ∈ TB := tbX 309 (by decide +kernel) (by decide +kernel)
theorem tw_310 : Cond.constantLong RX0 31 (255) ∈ TB := tbX 310 (by decide +kernel) (by decide +kernel)
theorem tw_313 : Cond.instanceMethod yX3_withSequence ∈ TB := tbX 313 (by decide +kernel) (by decide +kernel)
theorem tw_314 : Cond.code yX3_withSequence cX3_withSequence 3 (some .int) ∈ TB := tbX 314 (by decide +kernel) (by decide +kernel)
theorem tw_315 : Cond.methodLink RX5 219 yX5_queueRecord ∈ TB := tbX 315 (by decide +kernel) (by decide +kernel)
theorem tw_317 : Cond.instanceMethod yX5_queueRecord ∈ TB := tbX 317 (by decide +kernel) (by decide +kernel)
theorem tw_318 : Cond.code yX5_queueRecord cX5_queueRecord 5 none ∈ TB := tbX 318 (by decide +kernel) (by decide +kernel)
theorem tw_321 : Cond.instanceMethod yX3_key ∈ TB := tbX 321 (by decide +kernel) (by decide +kernel)
theorem tw_322 : Cond.code yX3_key cX3_key 2 (some .long) ∈ TB := tbX 322 (by decide +kernel) (by decide +kernel)
theorem tw_323 : Cond.methodLink RX3 26 yX3_has ∈ TB := tbX 323 (by decide +kernel) (by decide +kernel)
theorem tw_325 : Cond.instanceMethod yX3_has ∈ TB := tbX 325 (by decide +kernel) (by decide +kernel)
theorem tw_326 : Cond.code yX3_has cX3_has 2 (some .boolean) ∈ TB := tbX 326 (by decide +kernel) (by decide +kernel)
theorem tw_329 : Cond.instanceMethod yX3_value ∈ TB := tbX 329 (by decide +kernel) (by decide +kernel)
theorem tw_330 : Cond.code yX3_value cX3_value 2 (some .long) ∈ TB := tbX 330 (by decide +kernel) (by decide +kernel)
theorem tw_333 : Cond.instanceMethod yX2_seal ∈ TB := tbX 333 (by decide +kernel) (by decide +kernel)
theorem tw_334 : Cond.code yX2_seal cX2_seal 2 none ∈ TB := tbX 334 (by decide +kernel) (by decide +kernel)
theorem tw_335 : Cond.methodLink RX2 28 yX2_target ∈ TB := tbX 335 (by decide +kernel) (by decide +kernel)
theorem tw_337 : Cond.instanceMethod yX2_target ∈ TB := tbX 337 (by decide +kernel) (by decide +kernel)
theorem tw_338 : Cond.code yX2_target cX2_target 2 (some .int) ∈ TB := tbX 338 (by decide +kernel) (by decide +kernel)
theorem tw_341 : Cond.instanceMethod yX0_sum ∈ TB := tbX 341 (by decide +kernel) (by decide +kernel)
theorem tw_342 : Cond.code yX0_sum cX0_sum 8 (some .long) ∈ TB := tbX 342 (by decide +kernel) (by decide +kernel)
theorem tw_343 : Cond.methodLink RX0 27 yX0_value ∈ TB := tbX 343 (by decide +kernel) (by decide +kernel)
theorem tw_345 : Cond.instanceMethod yX0_value ∈ TB := tbX 345 (by decide +kernel) (by decide +kernel)
theorem tw_346 : Cond.code yX0_value cX0_value 3 (some .int) ∈ TB := tbX 346 (by decide +kernel) (by decide +kernel)
theorem tw_347 : Cond.constantLong RX0 37 (-7046029254386353131) ∈ TB := tbX 347 (by decide +kernel) (by decide +kernel)
theorem tw_350 : Cond.methodLink RL 25 yX5_flush ∈ TB := tbX 350 (by decide +kernel) (by decide +kernel)
theorem tw_351 : Cond.instanceMethod yX5_flush ∈ TB := tbX 351 (by decide +kernel) (by decide +kernel)
theorem tw_352 : Cond.selects RX5 yX5_flush yX5_flush ∈ TB := tbX 352 (by decide +kernel) (by decide +kernel)
theorem tw_353 : Cond.code yX5_flush cX5_flush 3 (some .int) ∈ TB := tbX 353 (by decide +kernel) (by decide +kernel)
theorem tw_354 : Cond.methodLink RL 30 yX5_sync ∈ TB := tbX 354 (by decide +kernel) (by decide +kernel)
theorem tw_355 : Cond.instanceMethod yX5_sync ∈ TB := tbX 355 (by decide +kernel) (by decide +kernel)
theorem tw_356 : Cond.selects RX5 yX5_sync yX5_sync ∈ TB := tbX 356 (by decide +kernel) (by decide +kernel)
theorem tw_357 : Cond.code yX5_sync cX5_sync 1 (some .int) ∈ TB := tbX 357 (by decide +kernel) (by decide +kernel)
theorem tw_360 : Cond.instanceMethod yX2_bytes ∈ TB := tbX 360 (by decide +kernel) (by decide +kernel)
theorem tw_361 : Cond.code yX2_bytes cX2_bytes 1 (some .int) ∈ TB := tbX 361 (by decide +kernel) (by decide +kernel)
theorem tw_364 : Cond.instanceMethod yX2_drain ∈ TB := tbX 364 (by decide +kernel) (by decide +kernel)
theorem tw_365 : Cond.code yX2_drain cX2_drain 7 (some .int) ∈ TB := tbX 365 (by decide +kernel) (by decide +kernel)
theorem tw_366 : Cond.methodLink RX2 47 yX2_bytes ∈ TB := tbX 366 (by decide +kernel) (by decide +kernel)
theorem tw_367 : Cond.methodLink RX2 51 Lib.Math.min.name ∈ TB := tbX 367 (by decide +kernel) (by decide +kernel)
theorem tw_369 : Cond.methodLink RL 34 yX5_commit ∈ TB := tbX 369 (by decide +kernel) (by decide +kernel)
theorem tw_370 : Cond.instanceMethod yX5_commit ∈ TB := tbX 370 (by decide +kernel) (by decide +kernel)
theorem tw_371 : Cond.selects RX5 yX5_commit yX5_commit ∈ TB := tbX 371 (by decide +kernel) (by decide +kernel)
theorem tw_372 : Cond.code yX5_commit cX5_commit 7 (some .int) ∈ TB := tbX 372 (by decide +kernel) (by decide +kernel)
theorem tw_373 : Cond.methodLink RX5 97 yX5_blocksFor ∈ TB := tbX 373 (by decide +kernel) (by decide +kernel)
theorem tw_374 : Cond.static yX5_blocksFor ∈ TB := tbX 374 (by decide +kernel) (by decide +kernel)
theorem tw_375 : Cond.code yX5_blocksFor cX5_blocksFor 1 (some .int) ∈ TB := tbX 375 (by decide +kernel) (by decide +kernel)
theorem tw_377 : Cond.methodLink RX5 104 yX5_planHead ∈ TB := tbX 377 (by decide +kernel) (by decide +kernel)
theorem tw_379 : Cond.instanceMethod yX5_planHead ∈ TB := tbX 379 (by decide +kernel) (by decide +kernel)
theorem tw_380 : Cond.code yX5_planHead cX5_planHead 5 none ∈ TB := tbX 380 (by decide +kernel) (by decide +kernel)
theorem tw_383 : Cond.instanceMethod yX1_appendAll ∈ TB := tbX 383 (by decide +kernel) (by decide +kernel)
theorem tw_384 : Cond.code yX1_appendAll cX1_appendAll 3 none ∈ TB := tbX 384 (by decide +kernel) (by decide +kernel)
theorem tw_385 : Cond.methodLink RX1 28 yX1_field ∈ TB := tbX 385 (by decide +kernel) (by decide +kernel)
theorem tw_387 : Cond.instanceMethod yX1_field ∈ TB := tbX 387 (by decide +kernel) (by decide +kernel)
theorem tw_388 : Cond.code yX1_field cX1_field 4 (some .int) ∈ TB := tbX 388 (by decide +kernel) (by decide +kernel)
theorem tw_389 : Cond.methodLink RX1 32 yX1_append ∈ TB := tbX 389 (by decide +kernel) (by decide +kernel)
theorem tw_391 : Cond.instanceMethod yX1_append ∈ TB := tbX 391 (by decide +kernel) (by decide +kernel)
theorem tw_392 : Cond.code yX1_append cX1_append 6 none ∈ TB := tbX 392 (by decide +kernel) (by decide +kernel)
theorem tw_394 : Cond.methodLink RX5 108 yX5_queueFile ∈ TB := tbX 394 (by decide +kernel) (by decide +kernel)
theorem tw_396 : Cond.instanceMethod yX5_queueFile ∈ TB := tbX 396 (by decide +kernel) (by decide +kernel)
theorem tw_397 : Cond.code yX5_queueFile cX5_queueFile 8 none ∈ TB := tbX 397 (by decide +kernel) (by decide +kernel)
theorem tw_399 : Cond.methodLink RX5 235 yX5_recordsAt ∈ TB := tbX 399 (by decide +kernel) (by decide +kernel)
theorem tw_400 : Cond.static yX5_recordsAt ∈ TB := tbX 400 (by decide +kernel) (by decide +kernel)
theorem tw_401 : Cond.code yX5_recordsAt cX5_recordsAt 2 (some .int) ∈ TB := tbX 401 (by decide +kernel) (by decide +kernel)
theorem tw_402 : Cond.methodLink RX5 200 Lib.Math.min.name ∈ TB := tbX 402 (by decide +kernel) (by decide +kernel)
theorem tw_405 : Cond.instanceMethod yX3_sequence ∈ TB := tbX 405 (by decide +kernel) (by decide +kernel)
theorem tw_406 : Cond.code yX3_sequence cX3_sequence 2 (some .int) ∈ TB := tbX 406 (by decide +kernel) (by decide +kernel)
theorem tw_407 : Cond.methodLink RX5 112 yX5_queueHead ∈ TB := tbX 407 (by decide +kernel) (by decide +kernel)
theorem tw_409 : Cond.instanceMethod yX5_queueHead ∈ TB := tbX 409 (by decide +kernel) (by decide +kernel)
theorem tw_410 : Cond.code yX5_queueHead cX5_queueHead 4 none ∈ TB := tbX 410 (by decide +kernel) (by decide +kernel)
theorem tw_412 : Cond.static yX1_fieldAt ∈ TB := tbX 412 (by decide +kernel) (by decide +kernel)
theorem tw_413 : Cond.code yX1_fieldAt cX1_fieldAt 2 (some .int) ∈ TB := tbX 413 (by decide +kernel) (by decide +kernel)
theorem tw_414 : Cond.methodLink RX5 115 yX5_takePlannedHead ∈ TB := tbX 414 (by decide +kernel) (by decide +kernel)
theorem tw_416 : Cond.instanceMethod yX5_takePlannedHead ∈ TB := tbX 416 (by decide +kernel) (by decide +kernel)
theorem tw_417 : Cond.code yX5_takePlannedHead cX5_takePlannedHead 3 none ∈ TB := tbX 417 (by decide +kernel) (by decide +kernel)
theorem tw_418 : Cond.methodLink RX5 241 yX5_swapHeads ∈ TB := tbX 418 (by decide +kernel) (by decide +kernel)
theorem tw_420 : Cond.instanceMethod yX5_swapHeads ∈ TB := tbX 420 (by decide +kernel) (by decide +kernel)
theorem tw_421 : Cond.code yX5_swapHeads cX5_swapHeads 2 none ∈ TB := tbX 421 (by decide +kernel) (by decide +kernel)
theorem tw_424 : Cond.instanceMethod yX4_turn ∈ TB := tbX 424 (by decide +kernel) (by decide +kernel)
theorem tw_425 : Cond.code yX4_turn cX4_turn 4 none ∈ TB := tbX 425 (by decide +kernel) (by decide +kernel)
theorem tw_428 : Cond.instanceMethod yX3_settle ∈ TB := tbX 428 (by decide +kernel) (by decide +kernel)
theorem tw_429 : Cond.code yX3_settle cX3_settle 2 none ∈ TB := tbX 429 (by decide +kernel) (by decide +kernel)
theorem tw_430 : Cond.methodLink RL 38 yX5_crash ∈ TB := tbX 430 (by decide +kernel) (by decide +kernel)
theorem tw_431 : Cond.instanceMethod yX5_crash ∈ TB := tbX 431 (by decide +kernel) (by decide +kernel)
theorem tw_432 : Cond.selects RX5 yX5_crash yX5_crash ∈ TB := tbX 432 (by decide +kernel) (by decide +kernel)
theorem tw_433 : Cond.code yX5_crash cX5_crash 2 (some .int) ∈ TB := tbX 433 (by decide +kernel) (by decide +kernel)
theorem tw_434 : Cond.methodLink RL 42 yX5_open ∈ TB := tbX 434 (by decide +kernel) (by decide +kernel)
theorem tw_435 : Cond.instanceMethod yX5_open ∈ TB := tbX 435 (by decide +kernel) (by decide +kernel)
theorem tw_436 : Cond.selects RX5 yX5_open yX5_open ∈ TB := tbX 436 (by decide +kernel) (by decide +kernel)
theorem tw_437 : Cond.code yX5_open cX5_open 3 (some .int) ∈ TB := tbX 437 (by decide +kernel) (by decide +kernel)
theorem tw_438 : Cond.methodLink RX5 121 yX5_chooseHead ∈ TB := tbX 438 (by decide +kernel) (by decide +kernel)
theorem tw_440 : Cond.instanceMethod yX5_chooseHead ∈ TB := tbX 440 (by decide +kernel) (by decide +kernel)
theorem tw_441 : Cond.code yX5_chooseHead cX5_chooseHead 1 none ∈ TB := tbX 441 (by decide +kernel) (by decide +kernel)
theorem tw_444 : Cond.instanceMethod yX1_read ∈ TB := tbX 444 (by decide +kernel) (by decide +kernel)
theorem tw_445 : Cond.code yX1_read cX1_read 8 none ∈ TB := tbX 445 (by decide +kernel) (by decide +kernel)
theorem tw_448 : Cond.instanceMethod yX0_isWhole ∈ TB := tbX 448 (by decide +kernel) (by decide +kernel)
theorem tw_449 : Cond.code yX0_isWhole cX0_isWhole 2 (some .boolean) ∈ TB := tbX 449 (by decide +kernel) (by decide +kernel)
theorem tw_450 : Cond.methodLink RX0 39 yX0_number ∈ TB := tbX 450 (by decide +kernel) (by decide +kernel)
theorem tw_452 : Cond.instanceMethod yX0_number ∈ TB := tbX 452 (by decide +kernel) (by decide +kernel)
theorem tw_453 : Cond.code yX0_number cX0_number 7 (some .long) ∈ TB := tbX 453 (by decide +kernel) (by decide +kernel)
theorem tw_454 : Cond.methodLink RX0 43 yX0_sum ∈ TB := tbX 454 (by decide +kernel) (by decide +kernel)
theorem tw_457 : Cond.methodLink RX1 49 yX1_inRange ∈ TB := tbX 457 (by decide +kernel) (by decide +kernel)
theorem tw_458 : Cond.static yX1_inRange ∈ TB := tbX 458 (by decide +kernel) (by decide +kernel)
theorem tw_459 : Cond.code yX1_inRange cX1_inRange 2 (some .boolean) ∈ TB := tbX 459 (by decide +kernel) (by decide +kernel)
theorem tw_460 : Cond.constantLong RX1 59 (1000000000) ∈ TB := tbX 460 (by decide +kernel) (by decide +kernel)
theorem tw_461 : Cond.constantLong RX1 53 (2) ∈ TB := tbX 461 (by decide +kernel) (by decide +kernel)
theorem tw_462 : Cond.methodLink RX1 55 yX1_readFiles ∈ TB := tbX 462 (by decide +kernel) (by decide +kernel)
theorem tw_464 : Cond.instanceMethod yX1_readFiles ∈ TB := tbX 464 (by decide +kernel) (by decide +kernel)
theorem tw_465 : Cond.code yX1_readFiles cX1_readFiles 9 (some .boolean) ∈ TB := tbX 465 (by decide +kernel) (by decide +kernel)
theorem tw_466 : Cond.methodLink RX1 61 yX1_fieldAt ∈ TB := tbX 466 (by decide +kernel) (by decide +kernel)
theorem tw_468 : Cond.methodLink RX1 71 yX1_overlaps ∈ TB := tbX 468 (by decide +kernel) (by decide +kernel)
theorem tw_470 : Cond.instanceMethod yX1_overlaps ∈ TB := tbX 470 (by decide +kernel) (by decide +kernel)
theorem tw_471 : Cond.code yX1_overlaps cX1_overlaps 4 (some .boolean) ∈ TB := tbX 471 (by decide +kernel) (by decide +kernel)
theorem tw_472 : Cond.methodLink RX5 124 yX5_firstWrongBlock ∈ TB := tbX 472 (by decide +kernel) (by decide +kernel)
theorem tw_474 : Cond.instanceMethod yX5_firstWrongBlock ∈ TB := tbX 474 (by decide +kernel) (by decide +kernel)
theorem tw_475 : Cond.code yX5_firstWrongBlock cX5_firstWrongBlock 3 (some .int) ∈ TB := tbX 475 (by decide +kernel) (by decide +kernel)
theorem tw_476 : Cond.methodLink RX5 255 yX5_isFileBlock ∈ TB := tbX 476 (by decide +kernel) (by decide +kernel)
theorem tw_478 : Cond.instanceMethod yX5_isFileBlock ∈ TB := tbX 478 (by decide +kernel) (by decide +kernel)
theorem tw_479 : Cond.code yX5_isFileBlock cX5_isFileBlock 4 (some .boolean) ∈ TB := tbX 479 (by decide +kernel) (by decide +kernel)
theorem tw_483 : Cond.methodLink RX5 127 yX5_readFile ∈ TB := tbX 483 (by decide +kernel) (by decide +kernel)
theorem tw_485 : Cond.instanceMethod yX5_readFile ∈ TB := tbX 485 (by decide +kernel) (by decide +kernel)
theorem tw_486 : Cond.code yX5_readFile cX5_readFile 6 none ∈ TB := tbX 486 (by decide +kernel) (by decide +kernel)
theorem tw_487 : Cond.methodLink RX5 262 yX5_readRecord ∈ TB := tbX 487 (by decide +kernel) (by decide +kernel)
theorem tw_489 : Cond.instanceMethod yX5_readRecord ∈ TB := tbX 489 (by decide +kernel) (by decide +kernel)
theorem tw_490 : Cond.code yX5_readRecord cX5_readRecord 5 none ∈ TB := tbX 490 (by decide +kernel) (by decide +kernel)
theorem tw_491 : Cond.methodLink RX5 265 Lib.Math.max.name ∈ TB := tbX 491 (by decide +kernel) (by decide +kernel)
theorem tw_492 : Cond.static Lib.Math.max.name ∈ TB := tbX 492 (by decide +kernel) (by decide +kernel)
theorem tw_493 : Cond.code Lib.Math.max.name Lib.Math.max.code 2 (some .int) ∈ TB := tbX 493 (by decide +kernel) (by decide +kernel)
theorem tw_494 : Cond.methodLink RX5 130 yX5_replayLog ∈ TB := tbX 494 (by decide +kernel) (by decide +kernel)
theorem tw_496 : Cond.instanceMethod yX5_replayLog ∈ TB := tbX 496 (by decide +kernel) (by decide +kernel)
theorem tw_497 : Cond.code yX5_replayLog cX5_replayLog 3 none ∈ TB := tbX 497 (by decide +kernel) (by decide +kernel)
theorem tw_500 : Cond.instanceMethod yX4_of ∈ TB := tbX 500 (by decide +kernel) (by decide +kernel)
theorem tw_501 : Cond.code yX4_of cX4_of 2 (some .int) ∈ TB := tbX 501 (by decide +kernel) (by decide +kernel)
theorem tw_502 : Cond.methodLink RX5 268 yX5_nextLogBlock ∈ TB := tbX 502 (by decide +kernel) (by decide +kernel)
theorem tw_504 : Cond.instanceMethod yX5_nextLogBlock ∈ TB := tbX 504 (by decide +kernel) (by decide +kernel)
theorem tw_505 : Cond.code yX5_nextLogBlock cX5_nextLogBlock 3 (some .int) ∈ TB := tbX 505 (by decide +kernel) (by decide +kernel)
theorem tw_506 : Cond.methodLink RX5 271 yX5_readLogBlock ∈ TB := tbX 506 (by decide +kernel) (by decide +kernel)
theorem tw_508 : Cond.instanceMethod yX5_readLogBlock ∈ TB := tbX 508 (by decide +kernel) (by decide +kernel)
theorem tw_509 : Cond.code yX5_readLogBlock cX5_readLogBlock 4 none ∈ TB := tbX 509 (by decide +kernel) (by decide +kernel)
theorem tw_510 : Cond.methodLink RX5 274 yX5_wipeOldLog ∈ TB := tbX 510 (by decide +kernel) (by decide +kernel)
theorem tw_512 : Cond.instanceMethod yX5_wipeOldLog ∈ TB := tbX 512 (by decide +kernel) (by decide +kernel)
theorem tw_513 : Cond.code yX5_wipeOldLog cX5_wipeOldLog 2 none ∈ TB := tbX 513 (by decide +kernel) (by decide +kernel)
theorem tw_515 : Cond.methodLink RL 46 yX5_acknowledged ∈ TB := tbX 515 (by decide +kernel) (by decide +kernel)
theorem tw_516 : Cond.instanceMethod yX5_acknowledged ∈ TB := tbX 516 (by decide +kernel) (by decide +kernel)
theorem tw_517 : Cond.selects RX5 yX5_acknowledged yX5_acknowledged ∈ TB := tbX 517 (by decide +kernel) (by decide +kernel)
theorem tw_518 : Cond.code yX5_acknowledged cX5_acknowledged 1 (some .int) ∈ TB := tbX 518 (by decide +kernel) (by decide +kernel)
theorem tw_519 : Cond.methodLink RL 50 yX5_get ∈ TB := tbX 519 (by decide +kernel) (by decide +kernel)
theorem tw_520 : Cond.instanceMethod yX5_get ∈ TB := tbX 520 (by decide +kernel) (by decide +kernel)
theorem tw_521 : Cond.selects RX5 yX5_get yX5_get ∈ TB := tbX 521 (by decide +kernel) (by decide +kernel)
theorem tw_522 : Cond.code yX5_get cX5_get 5 (some .long) ∈ TB := tbX 522 (by decide +kernel) (by decide +kernel)
theorem tw_526 : Cond.instanceMethod yX3_below ∈ TB := tbX 526 (by decide +kernel) (by decide +kernel)
theorem tw_527 : Cond.code yX3_below cX3_below 5 (some .int) ∈ TB := tbX 527 (by decide +kernel) (by decide +kernel)
theorem tw_528 : Cond.methodLink RL 55 yX5_times ∈ TB := tbX 528 (by decide +kernel) (by decide +kernel)
theorem tw_529 : Cond.instanceMethod yX5_times ∈ TB := tbX 529 (by decide +kernel) (by decide +kernel)
theorem tw_530 : Cond.selects RX5 yX5_times yX5_times ∈ TB := tbX 530 (by decide +kernel) (by decide +kernel)
theorem tw_531 : Cond.code yX5_times cX5_times 3 (some .int) ∈ TB := tbX 531 (by decide +kernel) (by decide +kernel)
theorem tw_532 : Cond.methodLink RL 60 yX5_record ∈ TB := tbX 532 (by decide +kernel) (by decide +kernel)
theorem tw_533 : Cond.instanceMethod yX5_record ∈ TB := tbX 533 (by decide +kernel) (by decide +kernel)
theorem tw_534 : Cond.selects RX5 yX5_record yX5_record ∈ TB := tbX 534 (by decide +kernel) (by decide +kernel)
theorem tw_535 : Cond.code yX5_record cX5_record 3 (some .long) ∈ TB := tbX 535 (by decide +kernel) (by decide +kernel)
theorem tw_537 : Cond.methodLink RX5 154 yX5_placeOf ∈ TB := tbX 537 (by decide +kernel) (by decide +kernel)
theorem tw_539 : Cond.instanceMethod yX5_placeOf ∈ TB := tbX 539 (by decide +kernel) (by decide +kernel)
theorem tw_540 : Cond.code yX5_placeOf cX5_placeOf 2 (some .int) ∈ TB := tbX 540 (by decide +kernel) (by decide +kernel)
theorem tw_541 : Cond.methodLink RL 65 yX5_file ∈ TB := tbX 541 (by decide +kernel) (by decide +kernel)
theorem tw_542 : Cond.instanceMethod yX5_file ∈ TB := tbX 542 (by decide +kernel) (by decide +kernel)
theorem tw_543 : Cond.selects RX5 yX5_file yX5_file ∈ TB := tbX 543 (by decide +kernel) (by decide +kernel)
theorem tw_544 : Cond.code yX5_file cX5_file 3 (some .int) ∈ TB := tbX 544 (by decide +kernel) (by decide +kernel)
theorem tw_545 : Cond.methodLink RL 70 yX5_use ∈ TB := tbX 545 (by decide +kernel) (by decide +kernel)
theorem tw_546 : Cond.instanceMethod yX5_use ∈ TB := tbX 546 (by decide +kernel) (by decide +kernel)
theorem tw_547 : Cond.selects RX5 yX5_use yX5_use ∈ TB := tbX 547 (by decide +kernel) (by decide +kernel)
theorem tw_548 : Cond.code yX5_use cX5_use 2 (some .int) ∈ TB := tbX 548 (by decide +kernel) (by decide +kernel)
theorem tw_550 : Cond.methodLink RL 74 yX5_octet ∈ TB := tbX 550 (by decide +kernel) (by decide +kernel)
theorem tw_551 : Cond.instanceMethod yX5_octet ∈ TB := tbX 551 (by decide +kernel) (by decide +kernel)
theorem tw_552 : Cond.selects RX5 yX5_octet yX5_octet ∈ TB := tbX 552 (by decide +kernel) (by decide +kernel)
theorem tw_553 : Cond.code yX5_octet cX5_octet 3 (some .int) ∈ TB := tbX 553 (by decide +kernel) (by decide +kernel)
theorem tw_554 : Cond.methodLink RL 78 yX5_poke ∈ TB := tbX 554 (by decide +kernel) (by decide +kernel)
theorem tw_555 : Cond.instanceMethod yX5_poke ∈ TB := tbX 555 (by decide +kernel) (by decide +kernel)
theorem tw_556 : Cond.selects RX5 yX5_poke yX5_poke ∈ TB := tbX 556 (by decide +kernel) (by decide +kernel)
theorem tw_557 : Cond.code yX5_poke cX5_poke 4 (some .int) ∈ TB := tbX 557 (by decide +kernel) (by decide +kernel)
theorem tw_559 : Cond.methodLink RL 83 yX5_bad ∈ TB := tbX 559 (by decide +kernel) (by decide +kernel)
theorem tw_560 : Cond.instanceMethod yX5_bad ∈ TB := tbX 560 (by decide +kernel) (by decide +kernel)
theorem tw_561 : Cond.selects RX5 yX5_bad yX5_bad ∈ TB := tbX 561 (by decide +kernel) (by decide +kernel)
theorem tw_562 : Cond.code yX5_bad cX5_bad 2 (some .int) ∈ TB := tbX 562 (by decide +kernel) (by decide +kernel)
theorem tw_563 : Cond.methodLink RX5 174 yX5_shouldBeWhole ∈ TB := tbX 563 (by decide +kernel) (by decide +kernel)
theorem tw_565 : Cond.instanceMethod yX5_shouldBeWhole ∈ TB := tbX 565 (by decide +kernel) (by decide +kernel)
theorem tw_566 : Cond.code yX5_shouldBeWhole cX5_shouldBeWhole 2 (some .boolean) ∈ TB := tbX 566 (by decide +kernel) (by decide +kernel)
theorem tw_569 : Cond.instanceMethod yX2_holds ∈ TB := tbX 569 (by decide +kernel) (by decide +kernel)
theorem tw_570 : Cond.code yX2_holds cX2_holds 3 (some .boolean) ∈ TB := tbX 570 (by decide +kernel) (by decide +kernel)
theorem tw_571 : Cond.methodLink RL 87 yX5_queued ∈ TB := tbX 571 (by decide +kernel) (by decide +kernel)
theorem tw_572 : Cond.instanceMethod yX5_queued ∈ TB := tbX 572 (by decide +kernel) (by decide +kernel)
theorem tw_573 : Cond.selects RX5 yX5_queued yX5_queued ∈ TB := tbX 573 (by decide +kernel) (by decide +kernel)
theorem tw_574 : Cond.code yX5_queued cX5_queued 2 (some .int) ∈ TB := tbX 574 (by decide +kernel) (by decide +kernel)
theorem tw_576 : Cond.methodLink RL 91 yX5_count ∈ TB := tbX 576 (by decide +kernel) (by decide +kernel)
theorem tw_577 : Cond.instanceMethod yX5_count ∈ TB := tbX 577 (by decide +kernel) (by decide +kernel)
theorem tw_578 : Cond.selects RX5 yX5_count yX5_count ∈ TB := tbX 578 (by decide +kernel) (by decide +kernel)
theorem tw_579 : Cond.code yX5_count cX5_count 2 (some .int) ∈ TB := tbX 579 (by decide +kernel) (by decide +kernel)
theorem tw_580 : Cond.methodLink RX5 183 yX5_countOpen ∈ TB := tbX 580 (by decide +kernel) (by decide +kernel)
theorem tw_582 : Cond.instanceMethod yX5_countOpen ∈ TB := tbX 582 (by decide +kernel) (by decide +kernel)
theorem tw_583 : Cond.code yX5_countOpen cX5_countOpen 2 (some .int) ∈ TB := tbX 583 (by decide +kernel) (by decide +kernel)
theorem tw_586 : Cond.instanceMethod yX4_howMany ∈ TB := tbX 586 (by decide +kernel) (by decide +kernel)
theorem tw_587 : Cond.code yX4_howMany cX4_howMany 4 (some .int) ∈ TB := tbX 587 (by decide +kernel) (by decide +kernel)
theorem tw_588 : Cond.classLink RL 10 RX6 ∈ TB := tbX 588 (by decide +kernel) (by decide +kernel)
theorem tw_589 : Cond.instantiable RX6 22 ∈ TB := tbX 589 (by decide +kernel) (by decide +kernel)
theorem tw_590 : Cond.methodLink RL 12 yX6_init ∈ TB := tbX 590 (by decide +kernel) (by decide +kernel)
theorem tw_591 : Cond.instanceMethod yX6_init ∈ TB := tbX 591 (by decide +kernel) (by decide +kernel)
theorem tw_592 : Cond.code yX6_init cX6_init 1 none ∈ TB := tbX 592 (by decide +kernel) (by decide +kernel)
theorem tw_593 : Cond.methodLink RX6 1 objectInit ∈ TB := tbX 593 (by decide +kernel) (by decide +kernel)
theorem tw_594 : Cond.methodLink RX6 45 yX6_format ∈ TB := tbX 594 (by decide +kernel) (by decide +kernel)
theorem tw_595 : Cond.instanceMethod yX6_format ∈ TB := tbX 595 (by decide +kernel) (by decide +kernel)
theorem tw_596 : Cond.selects RX6 yX6_format yX6_format ∈ TB := tbX 596 (by decide +kernel) (by decide +kernel)
theorem tw_597 : Cond.code yX6_format cX6_format 3 (some .int) ∈ TB := tbX 597 (by decide +kernel) (by decide +kernel)
theorem tw_598 : Cond.constantLong RX6 93 (4) ∈ TB := tbX 598 (by decide +kernel) (by decide +kernel)
theorem tw_599 : Cond.constantLong RX6 69 (64) ∈ TB := tbX 599 (by decide +kernel) (by decide +kernel)
theorem tw_600 : Cond.methodLink RX6 95 yX6_isIn ∈ TB := tbX 600 (by decide +kernel) (by decide +kernel)
theorem tw_601 : Cond.static yX6_isIn ∈ TB := tbX 601 (by decide +kernel) (by decide +kernel)
theorem tw_602 : Cond.code yX6_isIn cX6_isIn 6 (some .boolean) ∈ TB := tbX 602 (by decide +kernel) (by decide +kernel)
theorem tw_603 : Cond.methodLink RX6 102 yX6_forget ∈ TB := tbX 603 (by decide +kernel) (by decide +kernel)
theorem tw_605 : Cond.instanceMethod yX6_forget ∈ TB := tbX 605 (by decide +kernel) (by decide +kernel)
theorem tw_606 : Cond.code yX6_forget cX6_forget 1 none ∈ TB := tbX 606 (by decide +kernel) (by decide +kernel)
theorem tw_607 : Cond.fieldLink RX6 99 "SegmentLogModel" "blocks" "I" ∈ TB := tbX 607 (by decide +kernel) (by decide +kernel)
theorem tw_608 : Cond.fieldLink RX6 7 "SegmentLogModel" "disk" "[B" ∈ TB := tbX 608 (by decide +kernel) (by decide +kernel)
theorem tw_609 : Cond.fieldLink RX6 58 "SegmentLogModel" "queued" "I" ∈ TB := tbX 609 (by decide +kernel) (by decide +kernel)
theorem tw_610 : Cond.fieldLink RX6 13 "SegmentLogModel" "queue" "[I" ∈ TB := tbX 610 (by decide +kernel) (by decide +kernel)
theorem tw_611 : Cond.fieldLink RX6 17 "SegmentLogModel" "written" "[B" ∈ TB := tbX 611 (by decide +kernel) (by decide +kernel)
theorem tw_612 : Cond.fieldLink RX6 62 "SegmentLogModel" "at" "I" ∈ TB := tbX 612 (by decide +kernel) (by decide +kernel)
theorem tw_613 : Cond.fieldLink RX6 105 "SegmentLogModel" "isOpen" "Z" ∈ TB := tbX 613 (by decide +kernel) (by decide +kernel)
theorem tw_614 : Cond.fieldLink RX6 71 "SegmentLogModel" "records" "I" ∈ TB := tbX 614 (by decide +kernel) (by decide +kernel)
theorem tw_615 : Cond.fieldLink RX6 20 "SegmentLogModel" "key" "[J" ∈ TB := tbX 615 (by decide +kernel) (by decide +kernel)
theorem tw_616 : Cond.fieldLink RX6 24 "SegmentLogModel" "value" "[J" ∈ TB := tbX 616 (by decide +kernel) (by decide +kernel)
theorem tw_617 : Cond.fieldLink RX6 74 "SegmentLogModel" "files" "I" ∈ TB := tbX 617 (by decide +kernel) (by decide +kernel)
theorem tw_618 : Cond.fieldLink RX6 27 "SegmentLogModel" "fileNumber" "[I" ∈ TB := tbX 618 (by decide +kernel) (by decide +kernel)
theorem tw_619 : Cond.fieldLink RX6 30 "SegmentLogModel" "fileFirst" "[I" ∈ TB := tbX 619 (by decide +kernel) (by decide +kernel)
theorem tw_620 : Cond.fieldLink RX6 33 "SegmentLogModel" "fileBlocks" "[I" ∈ TB := tbX 620 (by decide +kernel) (by decide +kernel)
theorem tw_621 : Cond.fieldLink RX6 36 "SegmentLogModel" "fileRecords" "[I" ∈ TB := tbX 621 (by decide +kernel) (by decide +kernel)
theorem tw_622 : Cond.fieldLink RX6 77 "SegmentLogModel" "logs" "I" ∈ TB := tbX 622 (by decide +kernel) (by decide +kernel)
theorem tw_623 : Cond.fieldLink RX6 39 "SegmentLogModel" "logBlock" "[I" ∈ TB := tbX 623 (by decide +kernel) (by decide +kernel)
theorem tw_624 : Cond.fieldLink RX6 42 "SegmentLogModel" "logRecords" "[I" ∈ TB := tbX 624 (by decide +kernel) (by decide +kernel)
theorem tw_625 : Cond.fieldLink RX6 80 "SegmentLogModel" "waiting" "I" ∈ TB := tbX 625 (by decide +kernel) (by decide +kernel)
theorem tw_626 : Cond.fieldLink RX6 83 "SegmentLogModel" "generation" "J" ∈ TB := tbX 626 (by decide +kernel) (by decide +kernel)
theorem tw_627 : Cond.fieldLink RX6 87 "SegmentLogModel" "next" "J" ∈ TB := tbX 627 (by decide +kernel) (by decide +kernel)
theorem tw_628 : Cond.fieldLink RX6 90 "SegmentLogModel" "latest" "I" ∈ TB := tbX 628 (by decide +kernel) (by decide +kernel)
theorem tw_674 : Cond.methodLink RL 17 yX6_format ∈ TB := tbX 674 (by decide +kernel) (by decide +kernel)
theorem tw_675 : Cond.methodLink RL 24 yX6_add ∈ TB := tbX 675 (by decide +kernel) (by decide +kernel)
theorem tw_676 : Cond.instanceMethod yX6_add ∈ TB := tbX 676 (by decide +kernel) (by decide +kernel)
theorem tw_677 : Cond.selects RX6 yX6_add yX6_add ∈ TB := tbX 677 (by decide +kernel) (by decide +kernel)
theorem tw_678 : Cond.code yX6_add cX6_add 5 (some .int) ∈ TB := tbX 678 (by decide +kernel) (by decide +kernel)
theorem tw_679 : Cond.methodLink RX6 116 yX6_free ∈ TB := tbX 679 (by decide +kernel) (by decide +kernel)
theorem tw_681 : Cond.instanceMethod yX6_free ∈ TB := tbX 681 (by decide +kernel) (by decide +kernel)
theorem tw_682 : Cond.code yX6_free cX6_free 4 (some .int) ∈ TB := tbX 682 (by decide +kernel) (by decide +kernel)
theorem tw_683 : Cond.methodLink RX6 113 yX6_useOf ∈ TB := tbX 683 (by decide +kernel) (by decide +kernel)
theorem tw_685 : Cond.instanceMethod yX6_useOf ∈ TB := tbX 685 (by decide +kernel) (by decide +kernel)
theorem tw_686 : Cond.code yX6_useOf cX6_useOf 3 (some .int) ∈ TB := tbX 686 (by decide +kernel) (by decide +kernel)
theorem tw_687 : Cond.methodLink RX6 109 yX6_isOfFiles ∈ TB := tbX 687 (by decide +kernel) (by decide +kernel)
theorem tw_689 : Cond.instanceMethod yX6_isOfFiles ∈ TB := tbX 689 (by decide +kernel) (by decide +kernel)
theorem tw_690 : Cond.code yX6_isOfFiles cX6_isOfFiles 3 (some .boolean) ∈ TB := tbX 690 (by decide +kernel) (by decide +kernel)
theorem tw_691 : Cond.methodLink RX6 126 yX6_writesLog ∈ TB := tbX 691 (by decide +kernel) (by decide +kernel)
theorem tw_693 : Cond.instanceMethod yX6_writesLog ∈ TB := tbX 693 (by decide +kernel) (by decide +kernel)
theorem tw_694 : Cond.code yX6_writesLog cX6_writesLog 3 (some .boolean) ∈ TB := tbX 694 (by decide +kernel) (by decide +kernel)
theorem tw_695 : Cond.methodLink RX6 119 yX6_begin ∈ TB := tbX 695 (by decide +kernel) (by decide +kernel)
theorem tw_697 : Cond.instanceMethod yX6_begin ∈ TB := tbX 697 (by decide +kernel) (by decide +kernel)
theorem tw_698 : Cond.code yX6_begin cX6_begin 3 none ∈ TB := tbX 698 (by decide +kernel) (by decide +kernel)
theorem tw_699 : Cond.methodLink RX6 65 yX6_put ∈ TB := tbX 699 (by decide +kernel) (by decide +kernel)
theorem tw_701 : Cond.instanceMethod yX6_put ∈ TB := tbX 701 (by decide +kernel) (by decide +kernel)
theorem tw_702 : Cond.code yX6_put cX6_put 6 none ∈ TB := tbX 702 (by decide +kernel) (by decide +kernel)
theorem tw_703 : Cond.methodLink RX6 123 yX6_end ∈ TB := tbX 703 (by decide +kernel) (by decide +kernel)
theorem tw_705 : Cond.instanceMethod yX6_end ∈ TB := tbX 705 (by decide +kernel) (by decide +kernel)
theorem tw_706 : Cond.code yX6_end cX6_end 1 none ∈ TB := tbX 706 (by decide +kernel) (by decide +kernel)
theorem tw_707 : Cond.methodLink RX6 55 yX6_sumOf ∈ TB := tbX 707 (by decide +kernel) (by decide +kernel)
theorem tw_708 : Cond.static yX6_sumOf ∈ TB := tbX 708 (by decide +kernel) (by decide +kernel)
theorem tw_709 : Cond.code yX6_sumOf cX6_sumOf 6 (some .long) ∈ TB := tbX 709 (by decide +kernel) (by decide +kernel)
theorem tw_710 : Cond.constantLong RX6 49 (-7046029254386353131) ∈ TB := tbX 710 (by decide +kernel) (by decide +kernel)
theorem tw_711 : Cond.methodLink RL 29 yX6_flush ∈ TB := tbX 711 (by decide +kernel) (by decide +kernel)
theorem tw_712 : Cond.instanceMethod yX6_flush ∈ TB := tbX 712 (by decide +kernel) (by decide +kernel)
theorem tw_713 : Cond.selects RX6 yX6_flush yX6_flush ∈ TB := tbX 713 (by decide +kernel) (by decide +kernel)
theorem tw_714 : Cond.code yX6_flush cX6_flush 2 (some .int) ∈ TB := tbX 714 (by decide +kernel) (by decide +kernel)
theorem tw_715 : Cond.methodLink RL 33 yX6_sync ∈ TB := tbX 715 (by decide +kernel) (by decide +kernel)
theorem tw_716 : Cond.instanceMethod yX6_sync ∈ TB := tbX 716 (by decide +kernel) (by decide +kernel)
theorem tw_717 : Cond.selects RX6 yX6_sync yX6_sync ∈ TB := tbX 717 (by decide +kernel) (by decide +kernel)
theorem tw_718 : Cond.code yX6_sync cX6_sync 1 (some .int) ∈ TB := tbX 718 (by decide +kernel) (by decide +kernel)
theorem tw_719 : Cond.methodLink RX6 130 yX6_pours ∈ TB := tbX 719 (by decide +kernel) (by decide +kernel)
theorem tw_721 : Cond.instanceMethod yX6_pours ∈ TB := tbX 721 (by decide +kernel) (by decide +kernel)
theorem tw_722 : Cond.code yX6_pours cX6_pours 9 (some .int) ∈ TB := tbX 722 (by decide +kernel) (by decide +kernel)
theorem tw_723 : Cond.methodLink RL 37 yX6_commit ∈ TB := tbX 723 (by decide +kernel) (by decide +kernel)
theorem tw_724 : Cond.instanceMethod yX6_commit ∈ TB := tbX 724 (by decide +kernel) (by decide +kernel)
theorem tw_725 : Cond.selects RX6 yX6_commit yX6_commit ∈ TB := tbX 725 (by decide +kernel) (by decide +kernel)
theorem tw_726 : Cond.code yX6_commit cX6_commit 10 (some .int) ∈ TB := tbX 726 (by decide +kernel) (by decide +kernel)
theorem tw_727 : Cond.methodLink RX6 134 yX6_inFiles ∈ TB := tbX 727 (by decide +kernel) (by decide +kernel)
theorem tw_729 : Cond.instanceMethod yX6_inFiles ∈ TB := tbX 729 (by decide +kernel) (by decide +kernel)
theorem tw_730 : Cond.code yX6_inFiles cX6_inFiles 3 (some .int) ∈ TB := tbX 730 (by decide +kernel) (by decide +kernel)
theorem tw_731 : Cond.methodLink RX6 138 yX6_sort ∈ TB := tbX 731 (by decide +kernel) (by decide +kernel)
theorem tw_733 : Cond.instanceMethod yX6_sort ∈ TB := tbX 733 (by decide +kernel) (by decide +kernel)
theorem tw_734 : Cond.code yX6_sort cX6_sort 8 none ∈ TB := tbX 734 (by decide +kernel) (by decide +kernel)
theorem tw_735 : Cond.methodLink RX6 141 yX6_writesFile ∈ TB := tbX 735 (by decide +kernel) (by decide +kernel)
theorem tw_737 : Cond.instanceMethod yX6_writesFile ∈ TB := tbX 737 (by decide +kernel) (by decide +kernel)
theorem tw_738 : Cond.code yX6_writesFile cX6_writesFile 8 none ∈ TB := tbX 738 (by decide +kernel) (by decide +kernel)
theorem tw_739 : Cond.constantLong RX6 151 (2) ∈ TB := tbX 739 (by decide +kernel) (by decide +kernel)
theorem tw_740 : Cond.methodLink RX6 145 yX6_writesHead ∈ TB := tbX 740 (by decide +kernel) (by decide +kernel)
theorem tw_742 : Cond.instanceMethod yX6_writesHead ∈ TB := tbX 742 (by decide +kernel) (by decide +kernel)
theorem tw_743 : Cond.code yX6_writesHead cX6_writesHead 5 none ∈ TB := tbX 743 (by decide +kernel) (by decide +kernel)
theorem tw_744 : Cond.constantLong RX6 153 (3) ∈ TB := tbX 744 (by decide +kernel) (by decide +kernel)
theorem tw_745 : Cond.methodLink RX6 148 yX6_closes ∈ TB := tbX 745 (by decide +kernel) (by decide +kernel)
theorem tw_747 : Cond.instanceMethod yX6_closes ∈ TB := tbX 747 (by decide +kernel) (by decide +kernel)
theorem tw_748 : Cond.code yX6_closes cX6_closes 1 none ∈ TB := tbX 748 (by decide +kernel) (by decide +kernel)
theorem tw_749 : Cond.methodLink RL 41 yX6_crash ∈ TB := tbX 749 (by decide +kernel) (by decide +kernel)
theorem tw_750 : Cond.instanceMethod yX6_crash ∈ TB := tbX 750 (by decide +kernel) (by decide +kernel)
theorem tw_751 : Cond.selects RX6 yX6_crash yX6_crash ∈ TB := tbX 751 (by decide +kernel) (by decide +kernel)
theorem tw_752 : Cond.code yX6_crash cX6_crash 3 (some .int) ∈ TB := tbX 752 (by decide +kernel) (by decide +kernel)
theorem tw_753 : Cond.methodLink RL 45 yX6_open ∈ TB := tbX 753 (by decide +kernel) (by decide +kernel)
theorem tw_754 : Cond.instanceMethod yX6_open ∈ TB := tbX 754 (by decide +kernel) (by decide +kernel)
theorem tw_755 : Cond.selects RX6 yX6_open yX6_open ∈ TB := tbX 755 (by decide +kernel) (by decide +kernel)
theorem tw_756 : Cond.code yX6_open cX6_open 3 (some .int) ∈ TB := tbX 756 (by decide +kernel) (by decide +kernel)
theorem tw_757 : Cond.methodLink RX6 166 yX6_isHead ∈ TB := tbX 757 (by decide +kernel) (by decide +kernel)
theorem tw_759 : Cond.instanceMethod yX6_isHead ∈ TB := tbX 759 (by decide +kernel) (by decide +kernel)
theorem tw_760 : Cond.code yX6_isHead cX6_isHead 7 (some .boolean) ∈ TB := tbX 760 (by decide +kernel) (by decide +kernel)
theorem tw_761 : Cond.methodLink RX6 51 yX6_number ∈ TB := tbX 761 (by decide +kernel) (by decide +kernel)
theorem tw_762 : Cond.static yX6_number ∈ TB := tbX 762 (by decide +kernel) (by decide +kernel)
theorem tw_763 : Cond.code yX6_number cX6_number 6 (some .long) ∈ TB := tbX 763 (by decide +kernel) (by decide +kernel)
theorem tw_764 : Cond.methodLink RX6 155 yX6_isWhole ∈ TB := tbX 764 (by decide +kernel) (by decide +kernel)
theorem tw_766 : Cond.instanceMethod yX6_isWhole ∈ TB := tbX 766 (by decide +kernel) (by decide +kernel)
theorem tw_767 : Cond.code yX6_isWhole cX6_isWhole 2 (some .boolean) ∈ TB := tbX 767 (by decide +kernel) (by decide +kernel)
theorem tw_768 : Cond.constantLong RX6 158 (5) ∈ TB := tbX 768 (by decide +kernel) (by decide +kernel)
theorem tw_769 : Cond.constantLong RX6 160 (1000000000) ∈ TB := tbX 769 (by decide +kernel) (by decide +kernel)
theorem tw_770 : Cond.methodLink RX6 162 yX6_isFile ∈ TB := tbX 770 (by decide +kernel) (by decide +kernel)
theorem tw_772 : Cond.instanceMethod yX6_isFile ∈ TB := tbX 772 (by decide +kernel) (by decide +kernel)
theorem tw_773 : Cond.code yX6_isFile cX6_isFile 15 (some .boolean) ∈ TB := tbX 773 (by decide +kernel) (by decide +kernel)
theorem tw_774 : Cond.methodLink RX6 169 yX6_readsFiles ∈ TB := tbX 774 (by decide +kernel) (by decide +kernel)
theorem tw_776 : Cond.instanceMethod yX6_readsFiles ∈ TB := tbX 776 (by decide +kernel) (by decide +kernel)
theorem tw_777 : Cond.code yX6_readsFiles cX6_readsFiles 4 (some .int) ∈ TB := tbX 777 (by decide +kernel) (by decide +kernel)
theorem tw_778 : Cond.methodLink RX6 175 yX6_isFileBlock ∈ TB := tbX 778 (by decide +kernel) (by decide +kernel)
theorem tw_780 : Cond.instanceMethod yX6_isFileBlock ∈ TB := tbX 780 (by decide +kernel) (by decide +kernel)
theorem tw_781 : Cond.code yX6_isFileBlock cX6_isFileBlock 7 (some .boolean) ∈ TB := tbX 781 (by decide +kernel) (by decide +kernel)
theorem tw_782 : Cond.methodLink RX6 179 yX6_reads ∈ TB := tbX 782 (by decide +kernel) (by decide +kernel)
theorem tw_784 : Cond.instanceMethod yX6_reads ∈ TB := tbX 784 (by decide +kernel) (by decide +kernel)
theorem tw_785 : Cond.code yX6_reads cX6_reads 4 none ∈ TB := tbX 785 (by decide +kernel) (by decide +kernel)
theorem tw_786 : Cond.methodLink RX6 172 yX6_readsLogs ∈ TB := tbX 786 (by decide +kernel) (by decide +kernel)
theorem tw_788 : Cond.instanceMethod yX6_readsLogs ∈ TB := tbX 788 (by decide +kernel) (by decide +kernel)
theorem tw_789 : Cond.code yX6_readsLogs cX6_readsLogs 4 none ∈ TB := tbX 789 (by decide +kernel) (by decide +kernel)
theorem tw_790 : Cond.methodLink RX6 183 yX6_isLog ∈ TB := tbX 790 (by decide +kernel) (by decide +kernel)
theorem tw_792 : Cond.instanceMethod yX6_isLog ∈ TB := tbX 792 (by decide +kernel) (by decide +kernel)
theorem tw_793 : Cond.code yX6_isLog cX6_isLog 2 (some .boolean) ∈ TB := tbX 793 (by decide +kernel) (by decide +kernel)
theorem tw_794 : Cond.methodLink RL 49 yX6_acknowledged ∈ TB := tbX 794 (by decide +kernel) (by decide +kernel)
theorem tw_795 : Cond.instanceMethod yX6_acknowledged ∈ TB := tbX 795 (by decide +kernel) (by decide +kernel)
theorem tw_796 : Cond.selects RX6 yX6_acknowledged yX6_acknowledged ∈ TB := tbX 796 (by decide +kernel) (by decide +kernel)
theorem tw_797 : Cond.code yX6_acknowledged cX6_acknowledged 4 (some .int) ∈ TB := tbX 797 (by decide +kernel) (by decide +kernel)
theorem tw_798 : Cond.methodLink RX6 186 yX6_isQueued ∈ TB := tbX 798 (by decide +kernel) (by decide +kernel)
theorem tw_800 : Cond.instanceMethod yX6_isQueued ∈ TB := tbX 800 (by decide +kernel) (by decide +kernel)
theorem tw_801 : Cond.code yX6_isQueued cX6_isQueued 3 (some .boolean) ∈ TB := tbX 801 (by decide +kernel) (by decide +kernel)
theorem tw_802 : Cond.methodLink RL 54 yX6_get ∈ TB := tbX 802 (by decide +kernel) (by decide +kernel)
theorem tw_803 : Cond.instanceMethod yX6_get ∈ TB := tbX 803 (by decide +kernel) (by decide +kernel)
theorem tw_804 : Cond.selects RX6 yX6_get yX6_get ∈ TB := tbX 804 (by decide +kernel) (by decide +kernel)
theorem tw_805 : Cond.code yX6_get cX6_get 6 (some .long) ∈ TB := tbX 805 (by decide +kernel) (by decide +kernel)
theorem tw_806 : Cond.methodLink RL 59 yX6_times ∈ TB := tbX 806 (by decide +kernel) (by decide +kernel)
theorem tw_807 : Cond.instanceMethod yX6_times ∈ TB := tbX 807 (by decide +kernel) (by decide +kernel)
theorem tw_808 : Cond.selects RX6 yX6_times yX6_times ∈ TB := tbX 808 (by decide +kernel) (by decide +kernel)
theorem tw_809 : Cond.code yX6_times cX6_times 5 (some .int) ∈ TB := tbX 809 (by decide +kernel) (by decide +kernel)
theorem tw_810 : Cond.methodLink RL 64 yX6_record ∈ TB := tbX 810 (by decide +kernel) (by decide +kernel)
theorem tw_811 : Cond.instanceMethod yX6_record ∈ TB := tbX 811 (by decide +kernel) (by decide +kernel)
theorem tw_812 : Cond.selects RX6 yX6_record yX6_record ∈ TB := tbX 812 (by decide +kernel) (by decide +kernel)
theorem tw_813 : Cond.code yX6_record cX6_record 6 (some .long) ∈ TB := tbX 813 (by decide +kernel) (by decide +kernel)
theorem tw_814 : Cond.methodLink RL 69 yX6_file ∈ TB := tbX 814 (by decide +kernel) (by decide +kernel)
theorem tw_815 : Cond.instanceMethod yX6_file ∈ TB := tbX 815 (by decide +kernel) (by decide +kernel)
theorem tw_816 : Cond.selects RX6 yX6_file yX6_file ∈ TB := tbX 816 (by decide +kernel) (by decide +kernel)
theorem tw_817 : Cond.code yX6_file cX6_file 3 (some .int) ∈ TB := tbX 817 (by decide +kernel) (by decide +kernel)
theorem tw_818 : Cond.methodLink RL 73 yX6_use ∈ TB := tbX 818 (by decide +kernel) (by decide +kernel)
theorem tw_819 : Cond.instanceMethod yX6_use ∈ TB := tbX 819 (by decide +kernel) (by decide +kernel)
theorem tw_820 : Cond.selects RX6 yX6_use yX6_use ∈ TB := tbX 820 (by decide +kernel) (by decide +kernel)
theorem tw_821 : Cond.code yX6_use cX6_use 2 (some .int) ∈ TB := tbX 821 (by decide +kernel) (by decide +kernel)
theorem tw_822 : Cond.methodLink RL 77 yX6_octet ∈ TB := tbX 822 (by decide +kernel) (by decide +kernel)
theorem tw_823 : Cond.instanceMethod yX6_octet ∈ TB := tbX 823 (by decide +kernel) (by decide +kernel)
theorem tw_824 : Cond.selects RX6 yX6_octet yX6_octet ∈ TB := tbX 824 (by decide +kernel) (by decide +kernel)
theorem tw_825 : Cond.code yX6_octet cX6_octet 3 (some .int) ∈ TB := tbX 825 (by decide +kernel) (by decide +kernel)
theorem tw_826 : Cond.constantLong RX6 189 (63) ∈ TB := tbX 826 (by decide +kernel) (by decide +kernel)
theorem tw_827 : Cond.methodLink RL 82 yX6_poke ∈ TB := tbX 827 (by decide +kernel) (by decide +kernel)
theorem tw_828 : Cond.instanceMethod yX6_poke ∈ TB := tbX 828 (by decide +kernel) (by decide +kernel)
theorem tw_829 : Cond.selects RX6 yX6_poke yX6_poke ∈ TB := tbX 829 (by decide +kernel) (by decide +kernel)
theorem tw_830 : Cond.code yX6_poke cX6_poke 4 (some .int) ∈ TB := tbX 830 (by decide +kernel) (by decide +kernel)
theorem tw_831 : Cond.constantLong RX6 191 (255) ∈ TB := tbX 831 (by decide +kernel) (by decide +kernel)
theorem tw_832 : Cond.methodLink RL 86 yX6_bad ∈ TB := tbX 832 (by decide +kernel) (by decide +kernel)
theorem tw_833 : Cond.instanceMethod yX6_bad ∈ TB := tbX 833 (by decide +kernel) (by decide +kernel)
theorem tw_834 : Cond.selects RX6 yX6_bad yX6_bad ∈ TB := tbX 834 (by decide +kernel) (by decide +kernel)
theorem tw_835 : Cond.code yX6_bad cX6_bad 4 (some .int) ∈ TB := tbX 835 (by decide +kernel) (by decide +kernel)
theorem tw_836 : Cond.methodLink RL 90 yX6_queued ∈ TB := tbX 836 (by decide +kernel) (by decide +kernel)
theorem tw_837 : Cond.instanceMethod yX6_queued ∈ TB := tbX 837 (by decide +kernel) (by decide +kernel)
theorem tw_838 : Cond.selects RX6 yX6_queued yX6_queued ∈ TB := tbX 838 (by decide +kernel) (by decide +kernel)
theorem tw_839 : Cond.code yX6_queued cX6_queued 2 (some .int) ∈ TB := tbX 839 (by decide +kernel) (by decide +kernel)
theorem tw_840 : Cond.methodLink RL 94 yX6_count ∈ TB := tbX 840 (by decide +kernel) (by decide +kernel)
theorem tw_841 : Cond.instanceMethod yX6_count ∈ TB := tbX 841 (by decide +kernel) (by decide +kernel)
theorem tw_842 : Cond.selects RX6 yX6_count yX6_count ∈ TB := tbX 842 (by decide +kernel) (by decide +kernel)
theorem tw_843 : Cond.code yX6_count cX6_count 4 (some .int) ∈ TB := tbX 843 (by decide +kernel) (by decide +kernel)
theorem tw_844 : Cond.constantLong RX6 193 (10) ∈ TB := tbX 844 (by decide +kernel) (by decide +kernel)
theorem tw_845 : Cond.constantLong RL 18 (4294967295) ∈ TB := tbX 845 (by decide +kernel) (by decide +kernel)
end
section
theorem dX0_init_0 : decode cX0_init 0 = .ok (.aload_n 0, 1) := by decide +kernel
theorem dX0_init_1 : decode cX0_init 1 = .ok (.invokespecial 3, 3) := by decide +kernel
theorem dX0_init_4 : decode cX0_init 4 = .ok (.aload_n 0, 1) := by decide +kernel
theorem dX0_init_5 : decode cX0_init 5 = .ok (.sipush 4096, 3) := by decide +kernel
theorem dX0_init_8 : decode cX0_init 8 = .ok (.newarray .byte, 2) := by decide +kernel
theorem dX0_init_10 : decode cX0_init 10 = .ok (.putfield 9, 3) := by decide +kernel
theorem dX0_init_13 : decode cX0_init 13 = .ok (.aload_n 0, 1) := by decide +kernel
theorem dX0_init_14 : decode cX0_init 14 = .ok (.iload_n 1, 1) := by decide +kernel
theorem dX0_init_15 : decode cX0_init 15 = .ok (.putfield 15, 3) := by decide +kernel
theorem dX0_init_18 : decode cX0_init 18 = .ok (.return_, 1) := by decide +kernel
theorem dX0_renew_0 : decode cX0_renew 0 = .ok (.aload_n 0, 1) := by decide +kernel
theorem dX0_renew_1 : decode cX0_renew 1 = .ok (.iload_n 1, 1) := by decide +kernel
theorem dX0_renew_2 : decode cX0_renew 2 = .ok (.putfield 15, 3) := by decide +kernel
theorem dX0_renew_5 : decode cX0_renew 5 = .ok (.iconst 0, 1) := by decide +kernel
theorem dX0_renew_6 : decode cX0_renew 6 = .ok (.istore_n 2, 1) := by decide +kernel
theorem dX0_renew_7 : decode cX0_renew 7 = .ok (.iload_n 2, 1) := by decide +kernel
theorem dX0_renew_8 : decode cX0_renew 8 = .ok (.aload_n 0, 1) := by decide +kernel
theorem dX0_renew_9 : decode cX0_renew 9 = .ok (.getfield 15, 3) := by decide +kernel
theorem dX0_renew_12 : decode cX0_renew 12 = .ok (.if_icmp .ge 14, 3) := by decide +kernel
theorem dX0_renew_15 : decode cX0_renew 15 = .ok (.aload_n 0, 1) := by decide +kernel
theorem dX0_renew_16 : decode cX0_renew 16 = .ok (.iload_n 2, 1) := by decide +kernel
theorem dX0_renew_17 : decode cX0_renew 17 = .ok (.invokevirtual 19, 3) := by decide +kernel
theorem dX0_renew_20 : decode cX0_renew 20 = .ok (.iinc 2 1, 3) := by decide +kernel
theorem dX0_renew_23 : decode cX0_renew 23 = .ok (.goto (-16), 3) := by decide +kernel
theorem dX0_renew_26 : decode cX0_renew 26 = .ok (.return_, 1) := by decide +kernel
theorem dX0_has_0 : decode cX0_has 0 = .ok (.iload_n 1, 1) := by decide +kernel
theorem dX0_has_1 : decode cX0_has 1 = .ok (.ifCond .lt 31, 3) := by decide +kernel
theorem dX0_has_4 : decode cX0_has 4 = .ok (.iload_n 1, 1) := by decide +kernel
theorem dX0_has_5 : decode cX0_has 5 = .ok (.aload_n 0, 1) := by decide +kernel
theorem dX0_has_6 : decode cX0_has 6 = .ok (.getfield 15, 3) := by decide +kernel
theorem dX0_has_9 : decode cX0_has 9 = .ok (.if_icmp .ge 23, 3) := by decide +kernel
theorem dX0_has_12 : decode cX0_has 12 = .ok (.iload_n 1, 1) := by decide +kernel
theorem dX0_has_13 : decode cX0_has 13 = .ok (.bipush 64, 2) := by decide +kernel
theorem dX0_has_15 : decode cX0_has 15 = .ok (.if_icmp .ge 17, 3) := by decide +kernel
theorem dX0_has_18 : decode cX0_has 18 = .ok (.iload_n 2, 1) := by decide +kernel
theorem dX0_has_19 : decode cX0_has 19 = .ok (.ifCond .lt 13, 3) := by decide +kernel
theorem dX0_has_22 : decode cX0_has 22 = .ok (.iload_n 2, 1) := by decide +kernel
theorem dX0_has_23 : decode cX0_has 23 = .ok (.bipush 64, 2) := by decide +kernel
theorem dX0_has_25 : decode cX0_has 25 = .ok (.if_icmp .ge 7, 3) := by decide +kernel
theorem dX0_has_28 : decode cX0_has 28 = .ok (.iconst 1, 1) := by decide +kernel
theorem dX0_has_29 : decode cX0_has 29 = .ok (.goto 4, 3) := by decide +kernel
theorem dX0_has_32 : decode cX0_has 32 = .ok (.iconst 0, 1) := by decide +kernel
theorem dX0_has_33 : decode cX0_has 33 = .ok (.ireturn, 1) := by decide +kernel
theorem dX0_value_0 : decode cX0_value 0 = .ok (.aload_n 0, 1) := by decide +kernel
theorem dX0_value_1 : decode cX0_value 1 = .ok (.iload_n 1, 1) := by decide +kernel
theorem dX0_value_2 : decode cX0_value 2 = .ok (.iload_n 2, 1) := by decide +kernel
theorem dX0_value_3 : decode cX0_value 3 = .ok (.invokevirtual 23, 3) := by decide +kernel
theorem dX0_value_6 : decode cX0_value 6 = .ok (.ifCond .eq 21, 3) := by decide +kernel
theorem dX0_value_9 : decode cX0_value 9 = .ok (.aload_n 0, 1) := by decide +kernel
theorem dX0_value_10 : decode cX0_value 10 = .ok (.getfield 9, 3) := by decide +kernel
theorem dX0_value_13 : decode cX0_value 13 = .ok (.iload_n 1, 1) := by decide +kernel
theorem dX0_value_14 : decode cX0_value 14 = .ok (.bipush 64, 2) := by decide +kernel
theorem dX0_value_16 : decode cX0_value 16 = .ok (.imul, 1) := by decide +kernel
theorem dX0_value_17 : decode cX0_value 17 = .ok (.iload_n 2, 1) := by decide +kernel
theorem dX0_value_18 : decode cX0_value 18 = .ok (.iadd, 1) := by decide +kernel
theorem dX0_value_19 : decode cX0_value 19 = .ok (.baload, 1) := by decide +kernel
theorem dX0_value_20 : decode cX0_value 20 = .ok (.sipush 255, 3) := by decide +kernel
theorem dX0_value_23 : decode cX0_value 23 = .ok (.iand, 1) := by decide +kernel
theorem dX0_value_24 : decode cX0_value 24 = .ok (.goto 4, 3) := by decide +kernel
theorem dX0_value_27 : decode cX0_value 27 = .ok (.iconst 0, 1) := by decide +kernel
theorem dX0_value_28 : decode cX0_value 28 = .ok (.ireturn, 1) := by decide +kernel
theorem dX0_put_0 : decode cX0_put 0 = .ok (.aload_n 0, 1) := by decide +kernel
theorem dX0_put_1 : decode cX0_put 1 = .ok (.iload_n 1, 1) := by decide +kernel
theorem dX0_put_2 : decode cX0_put 2 = .ok (.iload_n 2, 1) := by decide +kernel
theorem dX0_put_3 : decode cX0_put 3 = .ok (.invokevirtual 23, 3) := by decide +kernel
theorem dX0_put_6 : decode cX0_put 6 = .ok (.ifCond .eq 16, 3) := by decide +kernel
theorem dX0_put_9 : decode cX0_put 9 = .ok (.aload_n 0, 1) := by decide +kernel
theorem dX0_put_10 : decode cX0_put 10 = .ok (.getfield 9, 3) := by decide +kernel
theorem dX0_put_13 : decode cX0_put 13 = .ok (.iload_n 1, 1) := by decide +kernel
theorem dX0_put_14 : decode cX0_put 14 = .ok (.bipush 64, 2) := by decide +kernel
theorem dX0_put_16 : decode cX0_put 16 = .ok (.imul, 1) := by decide +kernel
theorem dX0_put_17 : decode cX0_put 17 = .ok (.iload_n 2, 1) := by decide +kernel
theorem dX0_put_18 : decode cX0_put 18 = .ok (.iadd, 1) := by decide +kernel
theorem dX0_put_19 : decode cX0_put 19 = .ok (.iload_n 3, 1) := by decide +kernel
theorem dX0_put_20 : decode cX0_put 20 = .ok (.i2b, 1) := by decide +kernel
theorem dX0_put_21 : decode cX0_put 21 = .ok (.bastore, 1) := by decide +kernel
theorem dX0_put_22 : decode cX0_put 22 = .ok (.return_, 1) := by decide +kernel
theorem dX0_number_0 : decode cX0_number 0 = .ok (.lconst 0, 1) := by decide +kernel
theorem dX0_number_1 : decode cX0_number 1 = .ok (.lstore 4, 2) := by decide +kernel
theorem dX0_number_3 : decode cX0_number 3 = .ok (.iload_n 3, 1) := by decide +kernel
theorem dX0_number_4 : decode cX0_number 4 = .ok (.iconst 1, 1) := by decide +kernel
theorem dX0_number_5 : decode cX0_number 5 = .ok (.isub, 1) := by decide +kernel
theorem dX0_number_6 : decode cX0_number 6 = .ok (.istore 6, 2) := by decide +kernel
theorem dX0_number_8 : decode cX0_number 8 = .ok (.iload 6, 2) := by decide +kernel
theorem dX0_number_10 : decode cX0_number 10 = .ok (.ifCond .lt 27, 3) := by decide +kernel
theorem dX0_number_13 : decode cX0_number 13 = .ok (.lload 4, 2) := by decide +kernel
theorem dX0_number_15 : decode cX0_number 15 = .ok (.bipush 8, 2) := by decide +kernel
theorem dX0_number_17 : decode cX0_number 17 = .ok (.lshl, 1) := by decide +kernel
theorem dX0_number_18 : decode cX0_number 18 = .ok (.aload_n 0, 1) := by decide +kernel
theorem dX0_number_19 : decode cX0_number 19 = .ok (.iload_n 1, 1) := by decide +kernel
theorem dX0_number_20 : decode cX0_number 20 = .ok (.iload_n 2, 1) := by decide +kernel
theorem dX0_number_21 : decode cX0_number 21 = .ok (.iload 6, 2) := by decide +kernel
theorem dX0_number_23 : decode cX0_number 23 = .ok (.iadd, 1) := by decide +kernel
theorem dX0_number_24 : decode cX0_number 24 = .ok (.invokevirtual 27, 3) := by decide +kernel
theorem dX0_number_27 : decode cX0_number 27 = .ok (.i2l, 1) := by decide +kernel
theorem dX0_number_28 : decode cX0_number 28 = .ok (.lor, 1) := by decide +kernel
theorem dX0_number_29 : decode cX0_number 29 = .ok (.lstore 4, 2) := by decide +kernel
theorem dX0_number_31 : decode cX0_number 31 = .ok (.iinc 6 (-1), 3) := by decide +kernel
theorem dX0_number_34 : decode cX0_number 34 = .ok (.goto (-26), 3) := by decide +kernel
theorem dX0_number_37 : decode cX0_number 37 = .ok (.lload 4, 2) := by decide +kernel
theorem dX0_number_39 : decode cX0_number 39 = .ok (.lreturn, 1) := by decide +kernel
theorem dX0_putNumber_0 : decode cX0_putNumber 0 = .ok (.lload 4, 2) := by decide +kernel
theorem dX0_putNumber_2 : decode cX0_putNumber 2 = .ok (.lstore 6, 2) := by decide +kernel
theorem dX0_putNumber_4 : decode cX0_putNumber 4 = .ok (.iconst 0, 1) := by decide +kernel
theorem dX0_putNumber_5 : decode cX0_putNumber 5 = .ok (.istore 8, 2) := by decide +kernel
theorem dX0_putNumber_7 : decode cX0_putNumber 7 = .ok (.iload 8, 2) := by decide +kernel
theorem dX0_putNumber_9 : decode cX0_putNumber 9 = .ok (.iload_n 3, 1) := by decide +kernel
theorem dX0_putNumber_10 : decode cX0_putNumber 10 = .ok (.if_icmp .ge 32, 3) := by decide +kernel
theorem dX0_putNumber_13 : decode cX0_putNumber 13 = .ok (.aload_n 0, 1) := by decide +kernel
theorem dX0_putNumber_14 : decode cX0_putNumber 14 = .ok (.iload_n 1, 1) := by decide +kernel
theorem dX0_putNumber_15 : decode cX0_putNumber 15 = .ok (.iload_n 2, 1) := by decide +kernel
theorem dX0_putNumber_16 : decode cX0_putNumber 16 = .ok (.iload 8, 2) := by decide +kernel
theorem dX0_putNumber_18 : decode cX0_putNumber 18 = .ok (.iadd, 1) := by decide +kernel
theorem dX0_putNumber_19 : decode cX0_putNumber 19 = .ok (.lload 6, 2) := by decide +kernel
theorem dX0_putNumber_21 : decode cX0_putNumber 21 = .ok (.ldc2_w 31, 3) := by decide +kernel
theorem dX0_putNumber_24 : decode cX0_putNumber 24 = .ok (.land, 1) := by decide +kernel
theorem dX0_putNumber_25 : decode cX0_putNumber 25 = .ok (.l2i, 1) := by decide +kernel
theorem dX0_putNumber_26 : decode cX0_putNumber 26 = .ok (.invokevirtual 33, 3) := by decide +kernel
theorem dX0_putNumber_29 : decode cX0_putNumber 29 = .ok (.lload 6, 2) := by decide +kernel
theorem dX0_putNumber_31 : decode cX0_putNumber 31 = .ok (.bipush 8, 2) := by decide +kernel
theorem dX0_putNumber_33 : decode cX0_putNumber 33 = .ok (.lushr, 1) := by decide +kernel
theorem dX0_putNumber_34 : decode cX0_putNumber 34 = .ok (.lstore 6, 2) := by decide +kernel
theorem dX0_putNumber_36 : decode cX0_putNumber 36 = .ok (.iinc 8 1, 3) := by decide +kernel
theorem dX0_putNumber_39 : decode cX0_putNumber 39 = .ok (.goto (-32), 3) := by decide +kernel
theorem dX0_putNumber_42 : decode cX0_putNumber 42 = .ok (.return_, 1) := by decide +kernel
theorem dX0_wipe_0 : decode cX0_wipe 0 = .ok (.iconst 0, 1) := by decide +kernel
theorem dX0_wipe_1 : decode cX0_wipe 1 = .ok (.istore_n 2, 1) := by decide +kernel
theorem dX0_wipe_2 : decode cX0_wipe 2 = .ok (.iload_n 2, 1) := by decide +kernel
theorem dX0_wipe_3 : decode cX0_wipe 3 = .ok (.bipush 64, 2) := by decide +kernel
theorem dX0_wipe_5 : decode cX0_wipe 5 = .ok (.if_icmp .ge 16, 3) := by decide +kernel
theorem dX0_wipe_8 : decode cX0_wipe 8 = .ok (.aload_n 0, 1) := by decide +kernel
theorem dX0_wipe_9 : decode cX0_wipe 9 = .ok (.iload_n 1, 1) := by decide +kernel
theorem dX0_wipe_10 : decode cX0_wipe 10 = .ok (.iload_n 2, 1) := by decide +kernel
theorem dX0_wipe_11 : decode cX0_wipe 11 = .ok (.iconst 0, 1) := by decide +kernel
theorem dX0_wipe_12 : decode cX0_wipe 12 = .ok (.invokevirtual 33, 3) := by decide +kernel
theorem dX0_wipe_15 : decode cX0_wipe 15 = .ok (.iinc 2 1, 3) := by decide +kernel
theorem dX0_wipe_18 : decode cX0_wipe 18 = .ok (.goto (-16), 3) := by decide +kernel
theorem dX0_wipe_21 : decode cX0_wipe 21 = .ok (.return_, 1) := by decide +kernel
theorem dX0_sum_0 : decode cX0_sum 0 = .ok (.iload_n 2, 1) := by decide +kernel
theorem dX0_sum_1 : decode cX0_sum 1 = .ok (.i2l, 1) := by decide +kernel
theorem dX0_sum_2 : decode cX0_sum 2 = .ok (.lstore_n 3, 1) := by decide +kernel
theorem dX0_sum_3 : decode cX0_sum 3 = .ok (.iconst 0, 1) := by decide +kernel
theorem dX0_sum_4 : decode cX0_sum 4 = .ok (.istore 5, 2) := by decide +kernel
theorem dX0_sum_6 : decode cX0_sum 6 = .ok (.iload 5, 2) := by decide +kernel
theorem dX0_sum_8 : decode cX0_sum 8 = .ok (.bipush 56, 2) := by decide +kernel
theorem dX0_sum_10 : decode cX0_sum 10 = .ok (.if_icmp .ge 37, 3) := by decide +kernel
theorem dX0_sum_13 : decode cX0_sum 13 = .ok (.lload_n 3, 1) := by decide +kernel
theorem dX0_sum_14 : decode cX0_sum 14 = .ok (.aload_n 0, 1) := by decide +kernel
theorem dX0_sum_15 : decode cX0_sum 15 = .ok (.iload_n 1, 1) := by decide +kernel
theorem dX0_sum_16 : decode cX0_sum 16 = .ok (.iload 5, 2) := by decide +kernel
theorem dX0_sum_18 : decode cX0_sum 18 = .ok (.invokevirtual 27, 3) := by decide +kernel
theorem dX0_sum_21 : decode cX0_sum 21 = .ok (.i2l, 1) := by decide +kernel
theorem dX0_sum_22 : decode cX0_sum 22 = .ok (.lxor, 1) := by decide +kernel
theorem dX0_sum_23 : decode cX0_sum 23 = .ok (.lstore 6, 2) := by decide +kernel
theorem dX0_sum_25 : decode cX0_sum 25 = .ok (.lload 6, 2) := by decide +kernel
theorem dX0_sum_27 : decode cX0_sum 27 = .ok (.bipush 11, 2) := by decide +kernel
theorem dX0_sum_29 : decode cX0_sum 29 = .ok (.lshl, 1) := by decide +kernel
theorem dX0_sum_30 : decode cX0_sum 30 = .ok (.lload 6, 2) := by decide +kernel
theorem dX0_sum_32 : decode cX0_sum 32 = .ok (.bipush 53, 2) := by decide +kernel
theorem dX0_sum_34 : decode cX0_sum 34 = .ok (.lushr, 1) := by decide +kernel
theorem dX0_sum_35 : decode cX0_sum 35 = .ok (.lor, 1) := by decide +kernel
theorem dX0_sum_36 : decode cX0_sum 36 = .ok (.ldc2_w 37, 3) := by decide +kernel
theorem dX0_sum_39 : decode cX0_sum 39 = .ok (.lmul, 1) := by decide +kernel
theorem dX0_sum_40 : decode cX0_sum 40 = .ok (.lstore_n 3, 1) := by decide +kernel
theorem dX0_sum_41 : decode cX0_sum 41 = .ok (.iinc 5 1, 3) := by decide +kernel
theorem dX0_sum_44 : decode cX0_sum 44 = .ok (.goto (-38), 3) := by decide +kernel
theorem dX0_sum_47 : decode cX0_sum 47 = .ok (.lload_n 3, 1) := by decide +kernel
theorem dX0_sum_48 : decode cX0_sum 48 = .ok (.lreturn, 1) := by decide +kernel
theorem dX0_isWhole_0 : decode cX0_isWhole 0 = .ok (.aload_n 0, 1) := by decide +kernel
theorem dX0_isWhole_1 : decode cX0_isWhole 1 = .ok (.iload_n 1, 1) := by decide +kernel
theorem dX0_isWhole_2 : decode cX0_isWhole 2 = .ok (.bipush 56, 2) := by decide +kernel
theorem dX0_isWhole_4 : decode cX0_isWhole 4 = .ok (.bipush 8, 2) := by decide +kernel
theorem dX0_isWhole_6 : decode cX0_isWhole 6 = .ok (.invokevirtual 39, 3) := by decide +kernel
theorem dX0_isWhole_9 : decode cX0_isWhole 9 = .ok (.aload_n 0, 1) := by decide +kernel
theorem dX0_isWhole_10 : decode cX0_isWhole 10 = .ok (.iload_n 1, 1) := by decide +kernel
theorem dX0_isWhole_11 : decode cX0_isWhole 11 = .ok (.iload_n 1, 1) := by decide +kernel
theorem dX0_isWhole_12 : decode cX0_isWhole 12 = .ok (.invokevirtual 43, 3) := by decide +kernel
theorem dX0_isWhole_15 : decode cX0_isWhole 15 = .ok (.lcmp, 1) := by decide +kernel
theorem dX0_isWhole_16 : decode cX0_isWhole 16 = .ok (.ifCond .ne 7, 3) := by decide +kernel
theorem dX0_isWhole_19 : decode cX0_isWhole 19 = .ok (.iconst 1, 1) := by decide +kernel
theorem dX0_isWhole_20 : decode cX0_isWhole 20 = .ok (.goto 4, 3) := by decide +kernel
theorem dX0_isWhole_23 : decode cX0_isWhole 23 = .ok (.iconst 0, 1) := by decide +kernel
theorem dX0_isWhole_24 : decode cX0_isWhole 24 = .ok (.ireturn, 1) := by decide +kernel
end
section
theorem dX4_init_0 : decode cX4_init 0 = .ok (.aload_n 0, 1) := by decide +kernel
theorem dX4_init_1 : decode cX4_init 1 = .ok (.invokespecial 3, 3) := by decide +kernel
theorem dX4_init_4 : decode cX4_init 4 = .ok (.aload_n 0, 1) := by decide +kernel
theorem dX4_init_5 : decode cX4_init 5 = .ok (.bipush 64, 2) := by decide +kernel
theorem dX4_init_7 : decode cX4_init 7 = .ok (.newarray .int, 2) := by decide +kernel
theorem dX4_init_9 : decode cX4_init 9 = .ok (.putfield 9, 3) := by decide +kernel
theorem dX4_init_12 : decode cX4_init 12 = .ok (.aload_n 0, 1) := by decide +kernel
theorem dX4_init_13 : decode cX4_init 13 = .ok (.iload_n 1, 1) := by decide +kernel
theorem dX4_init_14 : decode cX4_init 14 = .ok (.invokevirtual 15, 3) := by decide +kernel
theorem dX4_init_17 : decode cX4_init 17 = .ok (.return_, 1) := by decide +kernel
theorem dX4_clear_0 : decode cX4_clear 0 = .ok (.aload_n 0, 1) := by decide +kernel
theorem dX4_clear_1 : decode cX4_clear 1 = .ok (.iload_n 1, 1) := by decide +kernel
theorem dX4_clear_2 : decode cX4_clear 2 = .ok (.bipush 64, 2) := by decide +kernel
theorem dX4_clear_4 : decode cX4_clear 4 = .ok (.invokestatic 19, 3) := by decide +kernel
theorem dX4_clear_7 : decode cX4_clear 7 = .ok (.putfield 25, 3) := by decide +kernel
theorem dX4_clear_10 : decode cX4_clear 10 = .ok (.aload_n 0, 1) := by decide +kernel
theorem dX4_clear_11 : decode cX4_clear 11 = .ok (.iconst 0, 1) := by decide +kernel
theorem dX4_clear_12 : decode cX4_clear 12 = .ok (.aload_n 0, 1) := by decide +kernel
theorem dX4_clear_13 : decode cX4_clear 13 = .ok (.getfield 25, 3) := by decide +kernel
theorem dX4_clear_16 : decode cX4_clear 16 = .ok (.iconst 0, 1) := by decide +kernel
theorem dX4_clear_17 : decode cX4_clear 17 = .ok (.invokevirtual 29, 3) := by decide +kernel
theorem dX4_clear_20 : decode cX4_clear 20 = .ok (.aload_n 0, 1) := by decide +kernel
theorem dX4_clear_21 : decode cX4_clear 21 = .ok (.iconst 0, 1) := by decide +kernel
theorem dX4_clear_22 : decode cX4_clear 22 = .ok (.iconst 2, 1) := by decide +kernel
theorem dX4_clear_23 : decode cX4_clear 23 = .ok (.iconst 3, 1) := by decide +kernel
theorem dX4_clear_24 : decode cX4_clear 24 = .ok (.invokevirtual 29, 3) := by decide +kernel
theorem dX4_clear_27 : decode cX4_clear 27 = .ok (.return_, 1) := by decide +kernel
theorem dX4_of_0 : decode cX4_of 0 = .ok (.iload_n 1, 1) := by decide +kernel
theorem dX4_of_1 : decode cX4_of 1 = .ok (.ifCond .lt 20, 3) := by decide +kernel
theorem dX4_of_4 : decode cX4_of 4 = .ok (.iload_n 1, 1) := by decide +kernel
theorem dX4_of_5 : decode cX4_of 5 = .ok (.aload_n 0, 1) := by decide +kernel
theorem dX4_of_6 : decode cX4_of 6 = .ok (.getfield 25, 3) := by decide +kernel
theorem dX4_of_9 : decode cX4_of 9 = .ok (.if_icmp .ge 12, 3) := by decide +kernel
theorem dX4_of_12 : decode cX4_of 12 = .ok (.aload_n 0, 1) := by decide +kernel
theorem dX4_of_13 : decode cX4_of 13 = .ok (.getfield 9, 3) := by decide +kernel
theorem dX4_of_16 : decode cX4_of 16 = .ok (.iload_n 1, 1) := by decide +kernel
theorem dX4_of_17 : decode cX4_of 17 = .ok (.iaload, 1) := by decide +kernel
theorem dX4_of_18 : decode cX4_of 18 = .ok (.goto 4, 3) := by decide +kernel
theorem dX4_of_21 : decode cX4_of 21 = .ok (.iconst 0, 1) := by decide +kernel
theorem dX4_of_22 : decode cX4_of 22 = .ok (.ireturn, 1) := by decide +kernel
theorem dX4_mark_0 : decode cX4_mark 0 = .ok (.iconst 0, 1) := by decide +kernel
theorem dX4_mark_1 : decode cX4_mark 1 = .ok (.istore 4, 2) := by decide +kernel
theorem dX4_mark_3 : decode cX4_mark 3 = .ok (.iload 4, 2) := by decide +kernel
theorem dX4_mark_5 : decode cX4_mark 5 = .ok (.iload_n 2, 1) := by decide +kernel
theorem dX4_mark_6 : decode cX4_mark 6 = .ok (.if_icmp .ge 37, 3) := by decide +kernel
theorem dX4_mark_9 : decode cX4_mark 9 = .ok (.iload_n 1, 1) := by decide +kernel
theorem dX4_mark_10 : decode cX4_mark 10 = .ok (.iload 4, 2) := by decide +kernel
theorem dX4_mark_12 : decode cX4_mark 12 = .ok (.iadd, 1) := by decide +kernel
theorem dX4_mark_13 : decode cX4_mark 13 = .ok (.istore 5, 2) := by decide +kernel
theorem dX4_mark_15 : decode cX4_mark 15 = .ok (.iload 5, 2) := by decide +kernel
theorem dX4_mark_17 : decode cX4_mark 17 = .ok (.ifCond .lt 20, 3) := by decide +kernel
theorem dX4_mark_20 : decode cX4_mark 20 = .ok (.iload 5, 2) := by decide +kernel
theorem dX4_mark_22 : decode cX4_mark 22 = .ok (.aload_n 0, 1) := by decide +kernel
theorem dX4_mark_23 : decode cX4_mark 23 = .ok (.getfield 25, 3) := by decide +kernel
theorem dX4_mark_26 : decode cX4_mark 26 = .ok (.if_icmp .ge 11, 3) := by decide +kernel
theorem dX4_mark_29 : decode cX4_mark 29 = .ok (.aload_n 0, 1) := by decide +kernel
theorem dX4_mark_30 : decode cX4_mark 30 = .ok (.getfield 9, 3) := by decide +kernel
theorem dX4_mark_33 : decode cX4_mark 33 = .ok (.iload 5, 2) := by decide +kernel
theorem dX4_mark_35 : decode cX4_mark 35 = .ok (.iload_n 3, 1) := by decide +kernel
theorem dX4_mark_36 : decode cX4_mark 36 = .ok (.iastore, 1) := by decide +kernel
theorem dX4_mark_37 : decode cX4_mark 37 = .ok (.iinc 4 1, 3) := by decide +kernel
theorem dX4_mark_40 : decode cX4_mark 40 = .ok (.goto (-37), 3) := by decide +kernel
theorem dX4_mark_43 : decode cX4_mark 43 = .ok (.return_, 1) := by decide +kernel
theorem dX4_turn_0 : decode cX4_turn 0 = .ok (.iconst 0, 1) := by decide +kernel
theorem dX4_turn_1 : decode cX4_turn 1 = .ok (.istore_n 3, 1) := by decide +kernel
theorem dX4_turn_2 : decode cX4_turn 2 = .ok (.iload_n 3, 1) := by decide +kernel
theorem dX4_turn_3 : decode cX4_turn 3 = .ok (.aload_n 0, 1) := by decide +kernel
theorem dX4_turn_4 : decode cX4_turn 4 = .ok (.getfield 25, 3) := by decide +kernel
theorem dX4_turn_7 : decode cX4_turn 7 = .ok (.if_icmp .ge 26, 3) := by decide +kernel
theorem dX4_turn_10 : decode cX4_turn 10 = .ok (.aload_n 0, 1) := by decide +kernel
theorem dX4_turn_11 : decode cX4_turn 11 = .ok (.getfield 9, 3) := by decide +kernel
theorem dX4_turn_14 : decode cX4_turn 14 = .ok (.iload_n 3, 1) := by decide +kernel
theorem dX4_turn_15 : decode cX4_turn 15 = .ok (.iaload, 1) := by decide +kernel
theorem dX4_turn_16 : decode cX4_turn 16 = .ok (.iload_n 1, 1) := by decide +kernel
theorem dX4_turn_17 : decode cX4_turn 17 = .ok (.if_icmp .ne 10, 3) := by decide +kernel
theorem dX4_turn_20 : decode cX4_turn 20 = .ok (.aload_n 0, 1) := by decide +kernel
theorem dX4_turn_21 : decode cX4_turn 21 = .ok (.getfield 9, 3) := by decide +kernel
theorem dX4_turn_24 : decode cX4_turn 24 = .ok (.iload_n 3, 1) := by decide +kernel
theorem dX4_turn_25 : decode cX4_turn 25 = .ok (.iload_n 2, 1) := by decide +kernel
theorem dX4_turn_26 : decode cX4_turn 26 = .ok (.iastore, 1) := by decide +kernel
theorem dX4_turn_27 : decode cX4_turn 27 = .ok (.iinc 3 1, 3) := by decide +kernel
theorem dX4_turn_30 : decode cX4_turn 30 = .ok (.goto (-28), 3) := by decide +kernel
theorem dX4_turn_33 : decode cX4_turn 33 = .ok (.return_, 1) := by decide +kernel
theorem dX4_howMany_0 : decode cX4_howMany 0 = .ok (.iconst 0, 1) := by decide +kernel
theorem dX4_howMany_1 : decode cX4_howMany 1 = .ok (.istore_n 2, 1) := by decide +kernel
theorem dX4_howMany_2 : decode cX4_howMany 2 = .ok (.iconst 0, 1) := by decide +kernel
theorem dX4_howMany_3 : decode cX4_howMany 3 = .ok (.istore_n 3, 1) := by decide +kernel
theorem dX4_howMany_4 : decode cX4_howMany 4 = .ok (.iload_n 3, 1) := by decide +kernel
theorem dX4_howMany_5 : decode cX4_howMany 5 = .ok (.aload_n 0, 1) := by decide +kernel
theorem dX4_howMany_6 : decode cX4_howMany 6 = .ok (.getfield 25, 3) := by decide +kernel
theorem dX4_howMany_9 : decode cX4_howMany 9 = .ok (.if_icmp .ge 22, 3) := by decide +kernel
theorem dX4_howMany_12 : decode cX4_howMany 12 = .ok (.aload_n 0, 1) := by decide +kernel
theorem dX4_howMany_13 : decode cX4_howMany 13 = .ok (.getfield 9, 3) := by decide +kernel
theorem dX4_howMany_16 : decode cX4_howMany 16 = .ok (.iload_n 3, 1) := by decide +kernel
theorem dX4_howMany_17 : decode cX4_howMany 17 = .ok (.iaload, 1) := by decide +kernel
theorem dX4_howMany_18 : decode cX4_howMany 18 = .ok (.iload_n 1, 1) := by decide +kernel
theorem dX4_howMany_19 : decode cX4_howMany 19 = .ok (.if_icmp .ne 6, 3) := by decide +kernel
theorem dX4_howMany_22 : decode cX4_howMany 22 = .ok (.iinc 2 1, 3) := by decide +kernel
theorem dX4_howMany_25 : decode cX4_howMany 25 = .ok (.iinc 3 1, 3) := by decide +kernel
theorem dX4_howMany_28 : decode cX4_howMany 28 = .ok (.goto (-24), 3) := by decide +kernel
theorem dX4_howMany_31 : decode cX4_howMany 31 = .ok (.iload_n 2, 1) := by decide +kernel
theorem dX4_howMany_32 : decode cX4_howMany 32 = .ok (.ireturn, 1) := by decide +kernel
theorem dX4_leastFree_0 : decode cX4_leastFree 0 = .ok (.aload_n 0, 1) := by decide +kernel
theorem dX4_leastFree_1 : decode cX4_leastFree 1 = .ok (.iconst 1, 1) := by decide +kernel
theorem dX4_leastFree_2 : decode cX4_leastFree 2 = .ok (.invokevirtual 33, 3) := by decide +kernel
theorem dX4_leastFree_5 : decode cX4_leastFree 5 = .ok (.ireturn, 1) := by decide +kernel
theorem dX4_leastRun_0 : decode cX4_leastRun 0 = .ok (.iconst 0, 1) := by decide +kernel
theorem dX4_leastRun_1 : decode cX4_leastRun 1 = .ok (.istore_n 2, 1) := by decide +kernel
theorem dX4_leastRun_2 : decode cX4_leastRun 2 = .ok (.iconst 0, 1) := by decide +kernel
theorem dX4_leastRun_3 : decode cX4_leastRun 3 = .ok (.istore_n 3, 1) := by decide +kernel
theorem dX4_leastRun_4 : decode cX4_leastRun 4 = .ok (.iload_n 3, 1) := by decide +kernel
theorem dX4_leastRun_5 : decode cX4_leastRun 5 = .ok (.aload_n 0, 1) := by decide +kernel
theorem dX4_leastRun_6 : decode cX4_leastRun 6 = .ok (.getfield 25, 3) := by decide +kernel
theorem dX4_leastRun_9 : decode cX4_leastRun 9 = .ok (.if_icmp .ge 37, 3) := by decide +kernel
theorem dX4_leastRun_12 : decode cX4_leastRun 12 = .ok (.aload_n 0, 1) := by decide +kernel
theorem dX4_leastRun_13 : decode cX4_leastRun 13 = .ok (.getfield 9, 3) := by decide +kernel
theorem dX4_leastRun_16 : decode cX4_leastRun 16 = .ok (.iload_n 3, 1) := by decide +kernel
theorem dX4_leastRun_17 : decode cX4_leastRun 17 = .ok (.iaload, 1) := by decide +kernel
theorem dX4_leastRun_18 : decode cX4_leastRun 18 = .ok (.ifCond .ne 9, 3) := by decide +kernel
theorem dX4_leastRun_21 : decode cX4_leastRun 21 = .ok (.iload_n 2, 1) := by decide +kernel
theorem dX4_leastRun_22 : decode cX4_leastRun 22 = .ok (.iconst 1, 1) := by decide +kernel
theorem dX4_leastRun_23 : decode cX4_leastRun 23 = .ok (.iadd, 1) := by decide +kernel
theorem dX4_leastRun_24 : decode cX4_leastRun 24 = .ok (.goto 4, 3) := by decide +kernel
theorem dX4_leastRun_27 : decode cX4_leastRun 27 = .ok (.iconst 0, 1) := by decide +kernel
theorem dX4_leastRun_28 : decode cX4_leastRun 28 = .ok (.istore_n 2, 1) := by decide +kernel
theorem dX4_leastRun_29 : decode cX4_leastRun 29 = .ok (.iload_n 2, 1) := by decide +kernel
theorem dX4_leastRun_30 : decode cX4_leastRun 30 = .ok (.iload_n 1, 1) := by decide +kernel
theorem dX4_leastRun_31 : decode cX4_leastRun 31 = .ok (.if_icmp .lt 9, 3) := by decide +kernel
theorem dX4_leastRun_34 : decode cX4_leastRun 34 = .ok (.iload_n 3, 1) := by decide +kernel
theorem dX4_leastRun_35 : decode cX4_leastRun 35 = .ok (.iload_n 1, 1) := by decide +kernel
theorem dX4_leastRun_36 : decode cX4_leastRun 36 = .ok (.isub, 1) := by decide +kernel
theorem dX4_leastRun_37 : decode cX4_leastRun 37 = .ok (.iconst 1, 1) := by decide +kernel
theorem dX4_leastRun_38 : decode cX4_leastRun 38 = .ok (.iadd, 1) := by decide +kernel
theorem dX4_leastRun_39 : decode cX4_leastRun 39 = .ok (.ireturn, 1) := by decide +kernel
theorem dX4_leastRun_40 : decode cX4_leastRun 40 = .ok (.iinc 3 1, 3) := by decide +kernel
theorem dX4_leastRun_43 : decode cX4_leastRun 43 = .ok (.goto (-39), 3) := by decide +kernel
theorem dX4_leastRun_46 : decode cX4_leastRun 46 = .ok (.bipush (-2), 2) := by decide +kernel
theorem dX4_leastRun_48 : decode cX4_leastRun 48 = .ok (.ireturn, 1) := by decide +kernel
end
section
theorem dX3_init_0 : decode cX3_init 0 = .ok (.aload_n 0, 1) := by decide +kernel
theorem dX3_init_1 : decode cX3_init 1 = .ok (.invokespecial 3, 3) := by decide +kernel
theorem dX3_init_4 : decode cX3_init 4 = .ok (.aload_n 0, 1) := by decide +kernel
theorem dX3_init_5 : decode cX3_init 5 = .ok (.sipush 192, 3) := by decide +kernel
theorem dX3_init_8 : decode cX3_init 8 = .ok (.newarray .long, 2) := by decide +kernel
theorem dX3_init_10 : decode cX3_init 10 = .ok (.putfield 9, 3) := by decide +kernel
theorem dX3_init_13 : decode cX3_init 13 = .ok (.aload_n 0, 1) := by decide +kernel
theorem dX3_init_14 : decode cX3_init 14 = .ok (.sipush 192, 3) := by decide +kernel
theorem dX3_init_17 : decode cX3_init 17 = .ok (.newarray .long, 2) := by decide +kernel
theorem dX3_init_19 : decode cX3_init 19 = .ok (.putfield 15, 3) := by decide +kernel
theorem dX3_init_22 : decode cX3_init 22 = .ok (.aload_n 0, 1) := by decide +kernel
theorem dX3_init_23 : decode cX3_init 23 = .ok (.sipush 192, 3) := by decide +kernel
theorem dX3_init_26 : decode cX3_init 26 = .ok (.newarray .int, 2) := by decide +kernel
theorem dX3_init_28 : decode cX3_init 28 = .ok (.putfield 18, 3) := by decide +kernel
theorem dX3_init_31 : decode cX3_init 31 = .ok (.return_, 1) := by decide +kernel
theorem dX3_clear_0 : decode cX3_clear 0 = .ok (.aload_n 0, 1) := by decide +kernel
theorem dX3_clear_1 : decode cX3_clear 1 = .ok (.iconst 0, 1) := by decide +kernel
theorem dX3_clear_2 : decode cX3_clear 2 = .ok (.putfield 22, 3) := by decide +kernel
theorem dX3_clear_5 : decode cX3_clear 5 = .ok (.return_, 1) := by decide +kernel
theorem dX3_has_0 : decode cX3_has 0 = .ok (.iload_n 1, 1) := by decide +kernel
theorem dX3_has_1 : decode cX3_has 1 = .ok (.ifCond .lt 22, 3) := by decide +kernel
theorem dX3_has_4 : decode cX3_has 4 = .ok (.iload_n 1, 1) := by decide +kernel
theorem dX3_has_5 : decode cX3_has 5 = .ok (.aload_n 0, 1) := by decide +kernel
theorem dX3_has_6 : decode cX3_has 6 = .ok (.getfield 22, 3) := by decide +kernel
theorem dX3_has_9 : decode cX3_has 9 = .ok (.if_icmp .ge 14, 3) := by decide +kernel
theorem dX3_has_12 : decode cX3_has 12 = .ok (.iload_n 1, 1) := by decide +kernel
theorem dX3_has_13 : decode cX3_has 13 = .ok (.sipush 192, 3) := by decide +kernel
theorem dX3_has_16 : decode cX3_has 16 = .ok (.if_icmp .ge 7, 3) := by decide +kernel
theorem dX3_has_19 : decode cX3_has 19 = .ok (.iconst 1, 1) := by decide +kernel
theorem dX3_has_20 : decode cX3_has 20 = .ok (.goto 4, 3) := by decide +kernel
theorem dX3_has_23 : decode cX3_has 23 = .ok (.iconst 0, 1) := by decide +kernel
theorem dX3_has_24 : decode cX3_has 24 = .ok (.ireturn, 1) := by decide +kernel
theorem dX3_key_0 : decode cX3_key 0 = .ok (.aload_n 0, 1) := by decide +kernel
theorem dX3_key_1 : decode cX3_key 1 = .ok (.iload_n 1, 1) := by decide +kernel
theorem dX3_key_2 : decode cX3_key 2 = .ok (.invokevirtual 26, 3) := by decide +kernel
theorem dX3_key_5 : decode cX3_key 5 = .ok (.ifCond .eq 12, 3) := by decide +kernel
theorem dX3_key_8 : decode cX3_key 8 = .ok (.aload_n 0, 1) := by decide +kernel
theorem dX3_key_9 : decode cX3_key 9 = .ok (.getfield 9, 3) := by decide +kernel
theorem dX3_key_12 : decode cX3_key 12 = .ok (.iload_n 1, 1) := by decide +kernel
theorem dX3_key_13 : decode cX3_key 13 = .ok (.laload, 1) := by decide +kernel
theorem dX3_key_14 : decode cX3_key 14 = .ok (.goto 4, 3) := by decide +kernel
theorem dX3_key_17 : decode cX3_key 17 = .ok (.lconst 0, 1) := by decide +kernel
theorem dX3_key_18 : decode cX3_key 18 = .ok (.lreturn, 1) := by decide +kernel
theorem dX3_value_0 : decode cX3_value 0 = .ok (.aload_n 0, 1) := by decide +kernel
theorem dX3_value_1 : decode cX3_value 1 = .ok (.iload_n 1, 1) := by decide +kernel
theorem dX3_value_2 : decode cX3_value 2 = .ok (.invokevirtual 26, 3) := by decide +kernel
theorem dX3_value_5 : decode cX3_value 5 = .ok (.ifCond .eq 12, 3) := by decide +kernel
theorem dX3_value_8 : decode cX3_value 8 = .ok (.aload_n 0, 1) := by decide +kernel
theorem dX3_value_9 : decode cX3_value 9 = .ok (.getfield 15, 3) := by decide +kernel
theorem dX3_value_12 : decode cX3_value 12 = .ok (.iload_n 1, 1) := by decide +kernel
theorem dX3_value_13 : decode cX3_value 13 = .ok (.laload, 1) := by decide +kernel
theorem dX3_value_14 : decode cX3_value 14 = .ok (.goto 4, 3) := by decide +kernel
theorem dX3_value_17 : decode cX3_value 17 = .ok (.lconst 0, 1) := by decide +kernel
theorem dX3_value_18 : decode cX3_value 18 = .ok (.lreturn, 1) := by decide +kernel
theorem dX3_sequence_0 : decode cX3_sequence 0 = .ok (.aload_n 0, 1) := by decide +kernel
theorem dX3_sequence_1 : decode cX3_sequence 1 = .ok (.iload_n 1, 1) := by decide +kernel
theorem dX3_sequence_2 : decode cX3_sequence 2 = .ok (.invokevirtual 26, 3) := by decide +kernel
theorem dX3_sequence_5 : decode cX3_sequence 5 = .ok (.ifCond .eq 12, 3) := by decide +kernel
theorem dX3_sequence_8 : decode cX3_sequence 8 = .ok (.aload_n 0, 1) := by decide +kernel
theorem dX3_sequence_9 : decode cX3_sequence 9 = .ok (.getfield 18, 3) := by decide +kernel
theorem dX3_sequence_12 : decode cX3_sequence 12 = .ok (.iload_n 1, 1) := by decide +kernel
theorem dX3_sequence_13 : decode cX3_sequence 13 = .ok (.iaload, 1) := by decide +kernel
theorem dX3_sequence_14 : decode cX3_sequence 14 = .ok (.goto 4, 3) := by decide +kernel
theorem dX3_sequence_17 : decode cX3_sequence 17 = .ok (.iconst 0, 1) := by decide +kernel
theorem dX3_sequence_18 : decode cX3_sequence 18 = .ok (.ireturn, 1) := by decide +kernel
theorem dX3_insert_0 : decode cX3_insert 0 = .ok (.aload_n 0, 1) := by decide +kernel
theorem dX3_insert_1 : decode cX3_insert 1 = .ok (.getfield 22, 3) := by decide +kernel
theorem dX3_insert_4 : decode cX3_insert 4 = .ok (.sipush 192, 3) := by decide +kernel
theorem dX3_insert_7 : decode cX3_insert 7 = .ok (.if_icmp .lt 4, 3) := by decide +kernel
theorem dX3_insert_10 : decode cX3_insert 10 = .ok (.return_, 1) := by decide +kernel
theorem dX3_insert_11 : decode cX3_insert 11 = .ok (.aload_n 0, 1) := by decide +kernel
theorem dX3_insert_12 : decode cX3_insert 12 = .ok (.lload_n 1, 1) := by decide +kernel
theorem dX3_insert_13 : decode cX3_insert 13 = .ok (.invokevirtual 30, 3) := by decide +kernel
theorem dX3_insert_16 : decode cX3_insert 16 = .ok (.istore 6, 2) := by decide +kernel
theorem dX3_insert_18 : decode cX3_insert 18 = .ok (.aload_n 0, 1) := by decide +kernel
theorem dX3_insert_19 : decode cX3_insert 19 = .ok (.getfield 22, 3) := by decide +kernel
theorem dX3_insert_22 : decode cX3_insert 22 = .ok (.istore 7, 2) := by decide +kernel
theorem dX3_insert_24 : decode cX3_insert 24 = .ok (.iload 7, 2) := by decide +kernel
theorem dX3_insert_26 : decode cX3_insert 26 = .ok (.iload 6, 2) := by decide +kernel
theorem dX3_insert_28 : decode cX3_insert 28 = .ok (.if_icmp .le 57, 3) := by decide +kernel
theorem dX3_insert_31 : decode cX3_insert 31 = .ok (.aload_n 0, 1) := by decide +kernel
theorem dX3_insert_32 : decode cX3_insert 32 = .ok (.getfield 9, 3) := by decide +kernel
theorem dX3_insert_35 : decode cX3_insert 35 = .ok (.iload 7, 2) := by decide +kernel
theorem dX3_insert_37 : decode cX3_insert 37 = .ok (.aload_n 0, 1) := by decide +kernel
theorem dX3_insert_38 : decode cX3_insert 38 = .ok (.getfield 9, 3) := by decide +kernel
theorem dX3_insert_41 : decode cX3_insert 41 = .ok (.iload 7, 2) := by decide +kernel
theorem dX3_insert_43 : decode cX3_insert 43 = .ok (.iconst 1, 1) := by decide +kernel
theorem dX3_insert_44 : decode cX3_insert 44 = .ok (.isub, 1) := by decide +kernel
theorem dX3_insert_45 : decode cX3_insert 45 = .ok (.laload, 1) := by decide +kernel
theorem dX3_insert_46 : decode cX3_insert 46 = .ok (.lastore, 1) := by decide +kernel
theorem dX3_insert_47 : decode cX3_insert 47 = .ok (.aload_n 0, 1) := by decide +kernel
theorem dX3_insert_48 : decode cX3_insert 48 = .ok (.getfield 15, 3) := by decide +kernel
theorem dX3_insert_51 : decode cX3_insert 51 = .ok (.iload 7, 2) := by decide +kernel
theorem dX3_insert_53 : decode cX3_insert 53 = .ok (.aload_n 0, 1) := by decide +kernel
theorem dX3_insert_54 : decode cX3_insert 54 = .ok (.getfield 15, 3) := by decide +kernel
theorem dX3_insert_57 : decode cX3_insert 57 = .ok (.iload 7, 2) := by decide +kernel
theorem dX3_insert_59 : decode cX3_insert 59 = .ok (.iconst 1, 1) := by decide +kernel
theorem dX3_insert_60 : decode cX3_insert 60 = .ok (.isub, 1) := by decide +kernel
theorem dX3_insert_61 : decode cX3_insert 61 = .ok (.laload, 1) := by decide +kernel
theorem dX3_insert_62 : decode cX3_insert 62 = .ok (.lastore, 1) := by decide +kernel
theorem dX3_insert_63 : decode cX3_insert 63 = .ok (.aload_n 0, 1) := by decide +kernel
theorem dX3_insert_64 : decode cX3_insert 64 = .ok (.getfield 18, 3) := by decide +kernel
theorem dX3_insert_67 : decode cX3_insert 67 = .ok (.iload 7, 2) := by decide +kernel
theorem dX3_insert_69 : decode cX3_insert 69 = .ok (.aload_n 0, 1) := by decide +kernel
theorem dX3_insert_70 : decode cX3_insert 70 = .ok (.getfield 18, 3) := by decide +kernel
theorem dX3_insert_73 : decode cX3_insert 73 = .ok (.iload 7, 2) := by decide +kernel
theorem dX3_insert_75 : decode cX3_insert 75 = .ok (.iconst 1, 1) := by decide +kernel
theorem dX3_insert_76 : decode cX3_insert 76 = .ok (.isub, 1) := by decide +kernel
theorem dX3_insert_77 : decode cX3_insert 77 = .ok (.iaload, 1) := by decide +kernel
theorem dX3_insert_78 : decode cX3_insert 78 = .ok (.iastore, 1) := by decide +kernel
theorem dX3_insert_79 : decode cX3_insert 79 = .ok (.iinc 7 (-1), 3) := by decide +kernel
theorem dX3_insert_82 : decode cX3_insert 82 = .ok (.goto (-58), 3) := by decide +kernel
theorem dX3_insert_85 : decode cX3_insert 85 = .ok (.aload_n 0, 1) := by decide +kernel
theorem dX3_insert_86 : decode cX3_insert 86 = .ok (.getfield 9, 3) := by decide +kernel
theorem dX3_insert_89 : decode cX3_insert 89 = .ok (.iload 6, 2) := by decide +kernel
theorem dX3_insert_91 : decode cX3_insert 91 = .ok (.lload_n 1, 1) := by decide +kernel
theorem dX3_insert_92 : decode cX3_insert 92 = .ok (.lastore, 1) := by decide +kernel
theorem dX3_insert_93 : decode cX3_insert 93 = .ok (.aload_n 0, 1) := by decide +kernel
theorem dX3_insert_94 : decode cX3_insert 94 = .ok (.getfield 15, 3) := by decide +kernel
theorem dX3_insert_97 : decode cX3_insert 97 = .ok (.iload 6, 2) := by decide +kernel
theorem dX3_insert_99 : decode cX3_insert 99 = .ok (.lload_n 3, 1) := by decide +kernel
theorem dX3_insert_100 : decode cX3_insert 100 = .ok (.lastore, 1) := by decide +kernel
theorem dX3_insert_101 : decode cX3_insert 101 = .ok (.aload_n 0, 1) := by decide +kernel
theorem dX3_insert_102 : decode cX3_insert 102 = .ok (.getfield 18, 3) := by decide +kernel
theorem dX3_insert_105 : decode cX3_insert 105 = .ok (.iload 6, 2) := by decide +kernel
theorem dX3_insert_107 : decode cX3_insert 107 = .ok (.iload 5, 2) := by decide +kernel
theorem dX3_insert_109 : decode cX3_insert 109 = .ok (.iastore, 1) := by decide +kernel
theorem dX3_insert_110 : decode cX3_insert 110 = .ok (.aload_n 0, 1) := by decide +kernel
theorem dX3_insert_111 : decode cX3_insert 111 = .ok (.dup, 1) := by decide +kernel
theorem dX3_insert_112 : decode cX3_insert 112 = .ok (.getfield 22, 3) := by decide +kernel
theorem dX3_insert_115 : decode cX3_insert 115 = .ok (.iconst 1, 1) := by decide +kernel
theorem dX3_insert_116 : decode cX3_insert 116 = .ok (.iadd, 1) := by decide +kernel
theorem dX3_insert_117 : decode cX3_insert 117 = .ok (.putfield 22, 3) := by decide +kernel
theorem dX3_insert_120 : decode cX3_insert 120 = .ok (.return_, 1) := by decide +kernel
theorem dX3_below_0 : decode cX3_below 0 = .ok (.iconst 0, 1) := by decide +kernel
theorem dX3_below_1 : decode cX3_below 1 = .ok (.istore_n 3, 1) := by decide +kernel
theorem dX3_below_2 : decode cX3_below 2 = .ok (.iconst 0, 1) := by decide +kernel
theorem dX3_below_3 : decode cX3_below 3 = .ok (.istore 4, 2) := by decide +kernel
theorem dX3_below_5 : decode cX3_below 5 = .ok (.iload 4, 2) := by decide +kernel
theorem dX3_below_7 : decode cX3_below 7 = .ok (.aload_n 0, 1) := by decide +kernel
theorem dX3_below_8 : decode cX3_below 8 = .ok (.getfield 22, 3) := by decide +kernel
theorem dX3_below_11 : decode cX3_below 11 = .ok (.if_icmp .ge 24, 3) := by decide +kernel
theorem dX3_below_14 : decode cX3_below 14 = .ok (.aload_n 0, 1) := by decide +kernel
theorem dX3_below_15 : decode cX3_below 15 = .ok (.getfield 9, 3) := by decide +kernel
theorem dX3_below_18 : decode cX3_below 18 = .ok (.iload 4, 2) := by decide +kernel
theorem dX3_below_20 : decode cX3_below 20 = .ok (.laload, 1) := by decide +kernel
theorem dX3_below_21 : decode cX3_below 21 = .ok (.lload_n 1, 1) := by decide +kernel
theorem dX3_below_22 : decode cX3_below 22 = .ok (.lcmp, 1) := by decide +kernel
theorem dX3_below_23 : decode cX3_below 23 = .ok (.ifCond .ge 12, 3) := by decide +kernel
theorem dX3_below_26 : decode cX3_below 26 = .ok (.iinc 3 1, 3) := by decide +kernel
theorem dX3_below_29 : decode cX3_below 29 = .ok (.iinc 4 1, 3) := by decide +kernel
theorem dX3_below_32 : decode cX3_below 32 = .ok (.goto (-27), 3) := by decide +kernel
theorem dX3_below_35 : decode cX3_below 35 = .ok (.iload_n 3, 1) := by decide +kernel
theorem dX3_below_36 : decode cX3_below 36 = .ok (.ireturn, 1) := by decide +kernel
theorem dX3_upTo_0 : decode cX3_upTo 0 = .ok (.iconst 0, 1) := by decide +kernel
theorem dX3_upTo_1 : decode cX3_upTo 1 = .ok (.istore_n 3, 1) := by decide +kernel
theorem dX3_upTo_2 : decode cX3_upTo 2 = .ok (.iconst 0, 1) := by decide +kernel
theorem dX3_upTo_3 : decode cX3_upTo 3 = .ok (.istore 4, 2) := by decide +kernel
theorem dX3_upTo_5 : decode cX3_upTo 5 = .ok (.iload 4, 2) := by decide +kernel
theorem dX3_upTo_7 : decode cX3_upTo 7 = .ok (.aload_n 0, 1) := by decide +kernel
theorem dX3_upTo_8 : decode cX3_upTo 8 = .ok (.getfield 22, 3) := by decide +kernel
theorem dX3_upTo_11 : decode cX3_upTo 11 = .ok (.if_icmp .ge 24, 3) := by decide +kernel
theorem dX3_upTo_14 : decode cX3_upTo 14 = .ok (.aload_n 0, 1) := by decide +kernel
theorem dX3_upTo_15 : decode cX3_upTo 15 = .ok (.getfield 9, 3) := by decide +kernel
theorem dX3_upTo_18 : decode cX3_upTo 18 = .ok (.iload 4, 2) := by decide +kernel
theorem dX3_upTo_20 : decode cX3_upTo 20 = .ok (.laload, 1) := by decide +kernel
theorem dX3_upTo_21 : decode cX3_upTo 21 = .ok (.lload_n 1, 1) := by decide +kernel
theorem dX3_upTo_22 : decode cX3_upTo 22 = .ok (.lcmp, 1) := by decide +kernel
theorem dX3_upTo_23 : decode cX3_upTo 23 = .ok (.ifCond .gt 12, 3) := by decide +kernel
theorem dX3_upTo_26 : decode cX3_upTo 26 = .ok (.iinc 3 1, 3) := by decide +kernel
theorem dX3_upTo_29 : decode cX3_upTo 29 = .ok (.iinc 4 1, 3) := by decide +kernel
theorem dX3_upTo_32 : decode cX3_upTo 32 = .ok (.goto (-27), 3) := by decide +kernel
theorem dX3_upTo_35 : decode cX3_upTo 35 = .ok (.iload_n 3, 1) := by decide +kernel
theorem dX3_upTo_36 : decode cX3_upTo 36 = .ok (.ireturn, 1) := by decide +kernel
theorem dX3_withSequence_0 : decode cX3_withSequence 0 = .ok (.iconst 0, 1) := by decide +kernel
theorem dX3_withSequence_1 : decode cX3_withSequence 1 = .ok (.istore_n 2, 1) := by decide +kernel
theorem dX3_withSequence_2 : decode cX3_withSequence 2 = .ok (.iload_n 2, 1) := by decide +kernel
theorem dX3_withSequence_3 : decode cX3_withSequence 3 = .ok (.aload_n 0, 1) := by decide +kernel
theorem dX3_withSequence_4 : decode cX3_withSequence 4 = .ok (.getfield 22, 3) := by decide +kernel
theorem dX3_withSequence_7 : decode cX3_withSequence 7 = .ok (.if_icmp .ge 21, 3) := by decide +kernel
theorem dX3_withSequence_10 : decode cX3_withSequence 10 = .ok (.aload_n 0, 1) := by decide +kernel
theorem dX3_withSequence_11 : decode cX3_withSequence 11 = .ok (.getfield 18, 3) := by decide +kernel
theorem dX3_withSequence_14 : decode cX3_withSequence 14 = .ok (.iload_n 2, 1) := by decide +kernel
theorem dX3_withSequence_15 : decode cX3_withSequence 15 = .ok (.iaload, 1) := by decide +kernel
theorem dX3_withSequence_16 : decode cX3_withSequence 16 = .ok (.iload_n 1, 1) := by decide +kernel
theorem dX3_withSequence_17 : decode cX3_withSequence 17 = .ok (.if_icmp .ne 5, 3) := by decide +kernel
theorem dX3_withSequence_20 : decode cX3_withSequence 20 = .ok (.iload_n 2, 1) := by decide +kernel
theorem dX3_withSequence_21 : decode cX3_withSequence 21 = .ok (.ireturn, 1) := by decide +kernel
theorem dX3_withSequence_22 : decode cX3_withSequence 22 = .ok (.iinc 2 1, 3) := by decide +kernel
theorem dX3_withSequence_25 : decode cX3_withSequence 25 = .ok (.goto (-23), 3) := by decide +kernel
theorem dX3_withSequence_28 : decode cX3_withSequence 28 = .ok (.bipush (-2), 2) := by decide +kernel
theorem dX3_withSequence_30 : decode cX3_withSequence 30 = .ok (.ireturn, 1) := by decide +kernel
theorem dX3_settle_0 : decode cX3_settle 0 = .ok (.iconst 0, 1) := by decide +kernel
theorem dX3_settle_1 : decode cX3_settle 1 = .ok (.istore_n 1, 1) := by decide +kernel
theorem dX3_settle_2 : decode cX3_settle 2 = .ok (.iload_n 1, 1) := by decide +kernel
theorem dX3_settle_3 : decode cX3_settle 3 = .ok (.aload_n 0, 1) := by decide +kernel
theorem dX3_settle_4 : decode cX3_settle 4 = .ok (.getfield 22, 3) := by decide +kernel
theorem dX3_settle_7 : decode cX3_settle 7 = .ok (.if_icmp .ge 16, 3) := by decide +kernel
theorem dX3_settle_10 : decode cX3_settle 10 = .ok (.aload_n 0, 1) := by decide +kernel
theorem dX3_settle_11 : decode cX3_settle 11 = .ok (.getfield 18, 3) := by decide +kernel
theorem dX3_settle_14 : decode cX3_settle 14 = .ok (.iload_n 1, 1) := by decide +kernel
theorem dX3_settle_15 : decode cX3_settle 15 = .ok (.iconst 0, 1) := by decide +kernel
theorem dX3_settle_16 : decode cX3_settle 16 = .ok (.iastore, 1) := by decide +kernel
theorem dX3_settle_17 : decode cX3_settle 17 = .ok (.iinc 1 1, 3) := by decide +kernel
theorem dX3_settle_20 : decode cX3_settle 20 = .ok (.goto (-18), 3) := by decide +kernel
theorem dX3_settle_23 : decode cX3_settle 23 = .ok (.return_, 1) := by decide +kernel
end
section
theorem dX2_init_0 : decode cX2_init 0 = .ok (.aload_n 0, 1) := by decide +kernel
theorem dX2_init_1 : decode cX2_init 1 = .ok (.invokespecial 3, 3) := by decide +kernel
theorem dX2_init_4 : decode cX2_init 4 = .ok (.aload_n 0, 1) := by decide +kernel
theorem dX2_init_5 : decode cX2_init 5 = .ok (.new 9, 3) := by decide +kernel
theorem dX2_init_8 : decode cX2_init 8 = .ok (.dup, 1) := by decide +kernel
theorem dX2_init_9 : decode cX2_init 9 = .ok (.bipush 64, 2) := by decide +kernel
theorem dX2_init_11 : decode cX2_init 11 = .ok (.invokespecial 11, 3) := by decide +kernel
theorem dX2_init_14 : decode cX2_init 14 = .ok (.putfield 14, 3) := by decide +kernel
theorem dX2_init_17 : decode cX2_init 17 = .ok (.aload_n 0, 1) := by decide +kernel
theorem dX2_init_18 : decode cX2_init 18 = .ok (.bipush 64, 2) := by decide +kernel
theorem dX2_init_20 : decode cX2_init 20 = .ok (.newarray .int, 2) := by decide +kernel
theorem dX2_init_22 : decode cX2_init 22 = .ok (.putfield 20, 3) := by decide +kernel
theorem dX2_init_25 : decode cX2_init 25 = .ok (.return_, 1) := by decide +kernel
theorem dX2_clear_0 : decode cX2_clear 0 = .ok (.aload_n 0, 1) := by decide +kernel
theorem dX2_clear_1 : decode cX2_clear 1 = .ok (.iconst 0, 1) := by decide +kernel
theorem dX2_clear_2 : decode cX2_clear 2 = .ok (.putfield 24, 3) := by decide +kernel
theorem dX2_clear_5 : decode cX2_clear 5 = .ok (.return_, 1) := by decide +kernel
theorem dX2_bytes_0 : decode cX2_bytes 0 = .ok (.aload_n 0, 1) := by decide +kernel
theorem dX2_bytes_1 : decode cX2_bytes 1 = .ok (.getfield 24, 3) := by decide +kernel
theorem dX2_bytes_4 : decode cX2_bytes 4 = .ok (.bipush 64, 2) := by decide +kernel
theorem dX2_bytes_6 : decode cX2_bytes 6 = .ok (.imul, 1) := by decide +kernel
theorem dX2_bytes_7 : decode cX2_bytes 7 = .ok (.ireturn, 1) := by decide +kernel
theorem dX2_target_0 : decode cX2_target 0 = .ok (.iload_n 1, 1) := by decide +kernel
theorem dX2_target_1 : decode cX2_target 1 = .ok (.ifCond .lt 26, 3) := by decide +kernel
theorem dX2_target_4 : decode cX2_target 4 = .ok (.iload_n 1, 1) := by decide +kernel
theorem dX2_target_5 : decode cX2_target 5 = .ok (.aload_n 0, 1) := by decide +kernel
theorem dX2_target_6 : decode cX2_target 6 = .ok (.getfield 24, 3) := by decide +kernel
theorem dX2_target_9 : decode cX2_target 9 = .ok (.if_icmp .ge 18, 3) := by decide +kernel
theorem dX2_target_12 : decode cX2_target 12 = .ok (.iload_n 1, 1) := by decide +kernel
theorem dX2_target_13 : decode cX2_target 13 = .ok (.bipush 64, 2) := by decide +kernel
theorem dX2_target_15 : decode cX2_target 15 = .ok (.if_icmp .ge 12, 3) := by decide +kernel
theorem dX2_target_18 : decode cX2_target 18 = .ok (.aload_n 0, 1) := by decide +kernel
theorem dX2_target_19 : decode cX2_target 19 = .ok (.getfield 20, 3) := by decide +kernel
theorem dX2_target_22 : decode cX2_target 22 = .ok (.iload_n 1, 1) := by decide +kernel
theorem dX2_target_23 : decode cX2_target 23 = .ok (.iaload, 1) := by decide +kernel
theorem dX2_target_24 : decode cX2_target 24 = .ok (.goto 5, 3) := by decide +kernel
theorem dX2_target_27 : decode cX2_target 27 = .ok (.bipush (-2), 2) := by decide +kernel
theorem dX2_target_29 : decode cX2_target 29 = .ok (.ireturn, 1) := by decide +kernel
theorem dX2_holds_0 : decode cX2_holds 0 = .ok (.iconst 0, 1) := by decide +kernel
theorem dX2_holds_1 : decode cX2_holds 1 = .ok (.istore_n 2, 1) := by decide +kernel
theorem dX2_holds_2 : decode cX2_holds 2 = .ok (.iload_n 2, 1) := by decide +kernel
theorem dX2_holds_3 : decode cX2_holds 3 = .ok (.aload_n 0, 1) := by decide +kernel
theorem dX2_holds_4 : decode cX2_holds 4 = .ok (.getfield 24, 3) := by decide +kernel
theorem dX2_holds_7 : decode cX2_holds 7 = .ok (.if_icmp .ge 20, 3) := by decide +kernel
theorem dX2_holds_10 : decode cX2_holds 10 = .ok (.aload_n 0, 1) := by decide +kernel
theorem dX2_holds_11 : decode cX2_holds 11 = .ok (.iload_n 2, 1) := by decide +kernel
theorem dX2_holds_12 : decode cX2_holds 12 = .ok (.invokevirtual 28, 3) := by decide +kernel
theorem dX2_holds_15 : decode cX2_holds 15 = .ok (.iload_n 1, 1) := by decide +kernel
theorem dX2_holds_16 : decode cX2_holds 16 = .ok (.if_icmp .ne 5, 3) := by decide +kernel
theorem dX2_holds_19 : decode cX2_holds 19 = .ok (.iconst 1, 1) := by decide +kernel
theorem dX2_holds_20 : decode cX2_holds 20 = .ok (.ireturn, 1) := by decide +kernel
theorem dX2_holds_21 : decode cX2_holds 21 = .ok (.iinc 2 1, 3) := by decide +kernel
theorem dX2_holds_24 : decode cX2_holds 24 = .ok (.goto (-22), 3) := by decide +kernel
theorem dX2_holds_27 : decode cX2_holds 27 = .ok (.iconst 0, 1) := by decide +kernel
theorem dX2_holds_28 : decode cX2_holds 28 = .ok (.ireturn, 1) := by decide +kernel
theorem dX2_append_0 : decode cX2_append 0 = .ok (.aload_n 0, 1) := by decide +kernel
theorem dX2_append_1 : decode cX2_append 1 = .ok (.getfield 24, 3) := by decide +kernel
theorem dX2_append_4 : decode cX2_append 4 = .ok (.bipush 64, 2) := by decide +kernel
theorem dX2_append_6 : decode cX2_append 6 = .ok (.if_icmp .lt 6, 3) := by decide +kernel
theorem dX2_append_9 : decode cX2_append 9 = .ok (.bipush (-2), 2) := by decide +kernel
theorem dX2_append_11 : decode cX2_append 11 = .ok (.ireturn, 1) := by decide +kernel
theorem dX2_append_12 : decode cX2_append 12 = .ok (.aload_n 0, 1) := by decide +kernel
theorem dX2_append_13 : decode cX2_append 13 = .ok (.getfield 24, 3) := by decide +kernel
theorem dX2_append_16 : decode cX2_append 16 = .ok (.istore 4, 2) := by decide +kernel
theorem dX2_append_18 : decode cX2_append 18 = .ok (.aload_n 0, 1) := by decide +kernel
theorem dX2_append_19 : decode cX2_append 19 = .ok (.dup, 1) := by decide +kernel
theorem dX2_append_20 : decode cX2_append 20 = .ok (.getfield 24, 3) := by decide +kernel
theorem dX2_append_23 : decode cX2_append 23 = .ok (.iconst 1, 1) := by decide +kernel
theorem dX2_append_24 : decode cX2_append 24 = .ok (.iadd, 1) := by decide +kernel
theorem dX2_append_25 : decode cX2_append 25 = .ok (.putfield 24, 3) := by decide +kernel
theorem dX2_append_28 : decode cX2_append 28 = .ok (.aload_n 0, 1) := by decide +kernel
theorem dX2_append_29 : decode cX2_append 29 = .ok (.getfield 20, 3) := by decide +kernel
theorem dX2_append_32 : decode cX2_append 32 = .ok (.iload 4, 2) := by decide +kernel
theorem dX2_append_34 : decode cX2_append 34 = .ok (.iload_n 1, 1) := by decide +kernel
theorem dX2_append_35 : decode cX2_append 35 = .ok (.iastore, 1) := by decide +kernel
theorem dX2_append_36 : decode cX2_append 36 = .ok (.aload_n 0, 1) := by decide +kernel
theorem dX2_append_37 : decode cX2_append 37 = .ok (.getfield 14, 3) := by decide +kernel
theorem dX2_append_40 : decode cX2_append 40 = .ok (.iload 4, 2) := by decide +kernel
theorem dX2_append_42 : decode cX2_append 42 = .ok (.invokevirtual 32, 3) := by decide +kernel
theorem dX2_append_45 : decode cX2_append 45 = .ok (.aload_n 0, 1) := by decide +kernel
theorem dX2_append_46 : decode cX2_append 46 = .ok (.getfield 14, 3) := by decide +kernel
theorem dX2_append_49 : decode cX2_append 49 = .ok (.iload 4, 2) := by decide +kernel
theorem dX2_append_51 : decode cX2_append 51 = .ok (.iconst 0, 1) := by decide +kernel
theorem dX2_append_52 : decode cX2_append 52 = .ok (.iload_n 2, 1) := by decide +kernel
theorem dX2_append_53 : decode cX2_append 53 = .ok (.invokevirtual 35, 3) := by decide +kernel
theorem dX2_append_56 : decode cX2_append 56 = .ok (.aload_n 0, 1) := by decide +kernel
theorem dX2_append_57 : decode cX2_append 57 = .ok (.getfield 14, 3) := by decide +kernel
theorem dX2_append_60 : decode cX2_append 60 = .ok (.iload 4, 2) := by decide +kernel
theorem dX2_append_62 : decode cX2_append 62 = .ok (.iconst 1, 1) := by decide +kernel
theorem dX2_append_63 : decode cX2_append 63 = .ok (.iload_n 3, 1) := by decide +kernel
theorem dX2_append_64 : decode cX2_append 64 = .ok (.invokevirtual 35, 3) := by decide +kernel
theorem dX2_append_67 : decode cX2_append 67 = .ok (.iload 4, 2) := by decide +kernel
theorem dX2_append_69 : decode cX2_append 69 = .ok (.ireturn, 1) := by decide +kernel
theorem dX2_seal_0 : decode cX2_seal 0 = .ok (.aload_n 0, 1) := by decide +kernel
theorem dX2_seal_1 : decode cX2_seal 1 = .ok (.getfield 14, 3) := by decide +kernel
theorem dX2_seal_4 : decode cX2_seal 4 = .ok (.iload_n 1, 1) := by decide +kernel
theorem dX2_seal_5 : decode cX2_seal 5 = .ok (.bipush 56, 2) := by decide +kernel
theorem dX2_seal_7 : decode cX2_seal 7 = .ok (.bipush 8, 2) := by decide +kernel
theorem dX2_seal_9 : decode cX2_seal 9 = .ok (.aload_n 0, 1) := by decide +kernel
theorem dX2_seal_10 : decode cX2_seal 10 = .ok (.getfield 14, 3) := by decide +kernel
theorem dX2_seal_13 : decode cX2_seal 13 = .ok (.iload_n 1, 1) := by decide +kernel
theorem dX2_seal_14 : decode cX2_seal 14 = .ok (.aload_n 0, 1) := by decide +kernel
theorem dX2_seal_15 : decode cX2_seal 15 = .ok (.iload_n 1, 1) := by decide +kernel
theorem dX2_seal_16 : decode cX2_seal 16 = .ok (.invokevirtual 28, 3) := by decide +kernel
theorem dX2_seal_19 : decode cX2_seal 19 = .ok (.invokevirtual 39, 3) := by decide +kernel
theorem dX2_seal_22 : decode cX2_seal 22 = .ok (.invokevirtual 43, 3) := by decide +kernel
theorem dX2_seal_25 : decode cX2_seal 25 = .ok (.return_, 1) := by decide +kernel
theorem dX2_drain_0 : decode cX2_drain 0 = .ok (.iload_n 2, 1) := by decide +kernel
theorem dX2_drain_1 : decode cX2_drain 1 = .ok (.aload_n 0, 1) := by decide +kernel
theorem dX2_drain_2 : decode cX2_drain 2 = .ok (.invokevirtual 47, 3) := by decide +kernel
theorem dX2_drain_5 : decode cX2_drain 5 = .ok (.invokestatic 51, 3) := by decide +kernel
theorem dX2_drain_8 : decode cX2_drain 8 = .ok (.istore_n 3, 1) := by decide +kernel
theorem dX2_drain_9 : decode cX2_drain 9 = .ok (.iconst 0, 1) := by decide +kernel
theorem dX2_drain_10 : decode cX2_drain 10 = .ok (.istore 4, 2) := by decide +kernel
theorem dX2_drain_12 : decode cX2_drain 12 = .ok (.iload 4, 2) := by decide +kernel
theorem dX2_drain_14 : decode cX2_drain 14 = .ok (.iload_n 3, 1) := by decide +kernel
theorem dX2_drain_15 : decode cX2_drain 15 = .ok (.if_icmp .ge 46, 3) := by decide +kernel
theorem dX2_drain_18 : decode cX2_drain 18 = .ok (.iload 4, 2) := by decide +kernel
theorem dX2_drain_20 : decode cX2_drain 20 = .ok (.bipush 64, 2) := by decide +kernel
theorem dX2_drain_22 : decode cX2_drain 22 = .ok (.idiv, 1) := by decide +kernel
theorem dX2_drain_23 : decode cX2_drain 23 = .ok (.istore 5, 2) := by decide +kernel
theorem dX2_drain_25 : decode cX2_drain 25 = .ok (.iload 4, 2) := by decide +kernel
theorem dX2_drain_27 : decode cX2_drain 27 = .ok (.bipush 64, 2) := by decide +kernel
theorem dX2_drain_29 : decode cX2_drain 29 = .ok (.irem, 1) := by decide +kernel
theorem dX2_drain_30 : decode cX2_drain 30 = .ok (.istore 6, 2) := by decide +kernel
theorem dX2_drain_32 : decode cX2_drain 32 = .ok (.aload_n 1, 1) := by decide +kernel
theorem dX2_drain_33 : decode cX2_drain 33 = .ok (.aload_n 0, 1) := by decide +kernel
theorem dX2_drain_34 : decode cX2_drain 34 = .ok (.iload 5, 2) := by decide +kernel
theorem dX2_drain_36 : decode cX2_drain 36 = .ok (.invokevirtual 28, 3) := by decide +kernel
theorem dX2_drain_39 : decode cX2_drain 39 = .ok (.iload 6, 2) := by decide +kernel
theorem dX2_drain_41 : decode cX2_drain 41 = .ok (.aload_n 0, 1) := by decide +kernel
theorem dX2_drain_42 : decode cX2_drain 42 = .ok (.getfield 14, 3) := by decide +kernel
theorem dX2_drain_45 : decode cX2_drain 45 = .ok (.iload 5, 2) := by decide +kernel
theorem dX2_drain_47 : decode cX2_drain 47 = .ok (.iload 6, 2) := by decide +kernel
theorem dX2_drain_49 : decode cX2_drain 49 = .ok (.invokevirtual 57, 3) := by decide +kernel
theorem dX2_drain_52 : decode cX2_drain 52 = .ok (.invokevirtual 35, 3) := by decide +kernel
theorem dX2_drain_55 : decode cX2_drain 55 = .ok (.iinc 4 1, 3) := by decide +kernel
theorem dX2_drain_58 : decode cX2_drain 58 = .ok (.goto (-46), 3) := by decide +kernel
theorem dX2_drain_61 : decode cX2_drain 61 = .ok (.aload_n 0, 1) := by decide +kernel
theorem dX2_drain_62 : decode cX2_drain 62 = .ok (.iconst 0, 1) := by decide +kernel
theorem dX2_drain_63 : decode cX2_drain 63 = .ok (.putfield 24, 3) := by decide +kernel
theorem dX2_drain_66 : decode cX2_drain 66 = .ok (.iload_n 3, 1) := by decide +kernel
theorem dX2_drain_67 : decode cX2_drain 67 = .ok (.bipush 64, 2) := by decide +kernel
theorem dX2_drain_69 : decode cX2_drain 69 = .ok (.idiv, 1) := by decide +kernel
theorem dX2_drain_70 : decode cX2_drain 70 = .ok (.ireturn, 1) := by decide +kernel
end
section
theorem dX1_init_0 : decode cX1_init 0 = .ok (.aload_n 0, 1) := by decide +kernel
theorem dX1_init_1 : decode cX1_init 1 = .ok (.invokespecial 3, 3) := by decide +kernel
theorem dX1_init_4 : decode cX1_init 4 = .ok (.aload_n 0, 1) := by decide +kernel
theorem dX1_init_5 : decode cX1_init 5 = .ok (.bipush 20, 2) := by decide +kernel
theorem dX1_init_7 : decode cX1_init 7 = .ok (.newarray .int, 2) := by decide +kernel
theorem dX1_init_9 : decode cX1_init 9 = .ok (.putfield 9, 3) := by decide +kernel
theorem dX1_init_12 : decode cX1_init 12 = .ok (.aload_n 0, 1) := by decide +kernel
theorem dX1_init_13 : decode cX1_init 13 = .ok (.invokevirtual 15, 3) := by decide +kernel
theorem dX1_init_16 : decode cX1_init 16 = .ok (.return_, 1) := by decide +kernel
theorem dX1_clear_0 : decode cX1_clear 0 = .ok (.aload_n 0, 1) := by decide +kernel
theorem dX1_clear_1 : decode cX1_clear 1 = .ok (.iconst 0, 1) := by decide +kernel
theorem dX1_clear_2 : decode cX1_clear 2 = .ok (.putfield 18, 3) := by decide +kernel
theorem dX1_clear_5 : decode cX1_clear 5 = .ok (.aload_n 0, 1) := by decide +kernel
theorem dX1_clear_6 : decode cX1_clear 6 = .ok (.iconst 0, 1) := by decide +kernel
theorem dX1_clear_7 : decode cX1_clear 7 = .ok (.putfield 22, 3) := by decide +kernel
theorem dX1_clear_10 : decode cX1_clear 10 = .ok (.aload_n 0, 1) := by decide +kernel
theorem dX1_clear_11 : decode cX1_clear 11 = .ok (.iconst 1, 1) := by decide +kernel
theorem dX1_clear_12 : decode cX1_clear 12 = .ok (.putfield 25, 3) := by decide +kernel
theorem dX1_clear_15 : decode cX1_clear 15 = .ok (.return_, 1) := by decide +kernel
theorem dX1_fieldAt_0 : decode cX1_fieldAt 0 = .ok (.bipush 8, 2) := by decide +kernel
theorem dX1_fieldAt_2 : decode cX1_fieldAt 2 = .ok (.iconst 2, 1) := by decide +kernel
theorem dX1_fieldAt_3 : decode cX1_fieldAt 3 = .ok (.iload_n 0, 1) := by decide +kernel
theorem dX1_fieldAt_4 : decode cX1_fieldAt 4 = .ok (.iconst 4, 1) := by decide +kernel
theorem dX1_fieldAt_5 : decode cX1_fieldAt 5 = .ok (.imul, 1) := by decide +kernel
theorem dX1_fieldAt_6 : decode cX1_fieldAt 6 = .ok (.iload_n 1, 1) := by decide +kernel
theorem dX1_fieldAt_7 : decode cX1_fieldAt 7 = .ok (.iadd, 1) := by decide +kernel
theorem dX1_fieldAt_8 : decode cX1_fieldAt 8 = .ok (.imul, 1) := by decide +kernel
theorem dX1_fieldAt_9 : decode cX1_fieldAt 9 = .ok (.iadd, 1) := by decide +kernel
theorem dX1_fieldAt_10 : decode cX1_fieldAt 10 = .ok (.ireturn, 1) := by decide +kernel
theorem dX1_field_0 : decode cX1_field 0 = .ok (.iload_n 1, 1) := by decide +kernel
theorem dX1_field_1 : decode cX1_field 1 = .ok (.ifCond .lt 29, 3) := by decide +kernel
theorem dX1_field_4 : decode cX1_field 4 = .ok (.iload_n 1, 1) := by decide +kernel
theorem dX1_field_5 : decode cX1_field 5 = .ok (.aload_n 0, 1) := by decide +kernel
theorem dX1_field_6 : decode cX1_field 6 = .ok (.getfield 18, 3) := by decide +kernel
theorem dX1_field_9 : decode cX1_field 9 = .ok (.if_icmp .ge 21, 3) := by decide +kernel
theorem dX1_field_12 : decode cX1_field 12 = .ok (.iload_n 1, 1) := by decide +kernel
theorem dX1_field_13 : decode cX1_field 13 = .ok (.iconst 5, 1) := by decide +kernel
theorem dX1_field_14 : decode cX1_field 14 = .ok (.if_icmp .ge 16, 3) := by decide +kernel
theorem dX1_field_17 : decode cX1_field 17 = .ok (.iload_n 2, 1) := by decide +kernel
theorem dX1_field_18 : decode cX1_field 18 = .ok (.ifCond .lt 12, 3) := by decide +kernel
theorem dX1_field_21 : decode cX1_field 21 = .ok (.iload_n 2, 1) := by decide +kernel
theorem dX1_field_22 : decode cX1_field 22 = .ok (.iconst 4, 1) := by decide +kernel
theorem dX1_field_23 : decode cX1_field 23 = .ok (.if_icmp .ge 7, 3) := by decide +kernel
theorem dX1_field_26 : decode cX1_field 26 = .ok (.iconst 1, 1) := by decide +kernel
theorem dX1_field_27 : decode cX1_field 27 = .ok (.goto 4, 3) := by decide +kernel
theorem dX1_field_30 : decode cX1_field 30 = .ok (.iconst 0, 1) := by decide +kernel
theorem dX1_field_31 : decode cX1_field 31 = .ok (.istore_n 3, 1) := by decide +kernel
theorem dX1_field_32 : decode cX1_field 32 = .ok (.iload_n 3, 1) := by decide +kernel
theorem dX1_field_33 : decode cX1_field 33 = .ok (.ifCond .eq 16, 3) := by decide +kernel
theorem dX1_field_36 : decode cX1_field 36 = .ok (.aload_n 0, 1) := by decide +kernel
theorem dX1_field_37 : decode cX1_field 37 = .ok (.getfield 9, 3) := by decide +kernel
theorem dX1_field_40 : decode cX1_field 40 = .ok (.iload_n 1, 1) := by decide +kernel
theorem dX1_field_41 : decode cX1_field 41 = .ok (.iconst 4, 1) := by decide +kernel
theorem dX1_field_42 : decode cX1_field 42 = .ok (.imul, 1) := by decide +kernel
theorem dX1_field_43 : decode cX1_field 43 = .ok (.iload_n 2, 1) := by decide +kernel
theorem dX1_field_44 : decode cX1_field 44 = .ok (.iadd, 1) := by decide +kernel
theorem dX1_field_45 : decode cX1_field 45 = .ok (.iaload, 1) := by decide +kernel
theorem dX1_field_46 : decode cX1_field 46 = .ok (.goto 4, 3) := by decide +kernel
theorem dX1_field_49 : decode cX1_field 49 = .ok (.iconst 0, 1) := by decide +kernel
theorem dX1_field_50 : decode cX1_field 50 = .ok (.ireturn, 1) := by decide +kernel
theorem dX1_append_0 : decode cX1_append 0 = .ok (.aload_n 0, 1) := by decide +kernel
theorem dX1_append_1 : decode cX1_append 1 = .ok (.getfield 18, 3) := by decide +kernel
theorem dX1_append_4 : decode cX1_append 4 = .ok (.iconst 5, 1) := by decide +kernel
theorem dX1_append_5 : decode cX1_append 5 = .ok (.if_icmp .lt 4, 3) := by decide +kernel
theorem dX1_append_8 : decode cX1_append 8 = .ok (.return_, 1) := by decide +kernel
theorem dX1_append_9 : decode cX1_append 9 = .ok (.aload_n 0, 1) := by decide +kernel
theorem dX1_append_10 : decode cX1_append 10 = .ok (.getfield 18, 3) := by decide +kernel
theorem dX1_append_13 : decode cX1_append 13 = .ok (.iconst 4, 1) := by decide +kernel
theorem dX1_append_14 : decode cX1_append 14 = .ok (.imul, 1) := by decide +kernel
theorem dX1_append_15 : decode cX1_append 15 = .ok (.istore 5, 2) := by decide +kernel
theorem dX1_append_17 : decode cX1_append 17 = .ok (.aload_n 0, 1) := by decide +kernel
theorem dX1_append_18 : decode cX1_append 18 = .ok (.getfield 9, 3) := by decide +kernel
theorem dX1_append_21 : decode cX1_append 21 = .ok (.iload 5, 2) := by decide +kernel
theorem dX1_append_23 : decode cX1_append 23 = .ok (.iconst 0, 1) := by decide +kernel
theorem dX1_append_24 : decode cX1_append 24 = .ok (.iadd, 1) := by decide +kernel
theorem dX1_append_25 : decode cX1_append 25 = .ok (.iload_n 1, 1) := by decide +kernel
theorem dX1_append_26 : decode cX1_append 26 = .ok (.iastore, 1) := by decide +kernel
theorem dX1_append_27 : decode cX1_append 27 = .ok (.aload_n 0, 1) := by decide +kernel
theorem dX1_append_28 : decode cX1_append 28 = .ok (.getfield 9, 3) := by decide +kernel
theorem dX1_append_31 : decode cX1_append 31 = .ok (.iload 5, 2) := by decide +kernel
theorem dX1_append_33 : decode cX1_append 33 = .ok (.iconst 1, 1) := by decide +kernel
theorem dX1_append_34 : decode cX1_append 34 = .ok (.iadd, 1) := by decide +kernel
theorem dX1_append_35 : decode cX1_append 35 = .ok (.iload_n 2, 1) := by decide +kernel
theorem dX1_append_36 : decode cX1_append 36 = .ok (.iastore, 1) := by decide +kernel
theorem dX1_append_37 : decode cX1_append 37 = .ok (.aload_n 0, 1) := by decide +kernel
theorem dX1_append_38 : decode cX1_append 38 = .ok (.getfield 9, 3) := by decide +kernel
theorem dX1_append_41 : decode cX1_append 41 = .ok (.iload 5, 2) := by decide +kernel
theorem dX1_append_43 : decode cX1_append 43 = .ok (.iconst 2, 1) := by decide +kernel
theorem dX1_append_44 : decode cX1_append 44 = .ok (.iadd, 1) := by decide +kernel
theorem dX1_append_45 : decode cX1_append 45 = .ok (.iload_n 3, 1) := by decide +kernel
theorem dX1_append_46 : decode cX1_append 46 = .ok (.iastore, 1) := by decide +kernel
theorem dX1_append_47 : decode cX1_append 47 = .ok (.aload_n 0, 1) := by decide +kernel
theorem dX1_append_48 : decode cX1_append 48 = .ok (.getfield 9, 3) := by decide +kernel
theorem dX1_append_51 : decode cX1_append 51 = .ok (.iload 5, 2) := by decide +kernel
theorem dX1_append_53 : decode cX1_append 53 = .ok (.iconst 3, 1) := by decide +kernel
theorem dX1_append_54 : decode cX1_append 54 = .ok (.iadd, 1) := by decide +kernel
theorem dX1_append_55 : decode cX1_append 55 = .ok (.iload 4, 2) := by decide +kernel
theorem dX1_append_57 : decode cX1_append 57 = .ok (.iastore, 1) := by decide +kernel
theorem dX1_append_58 : decode cX1_append 58 = .ok (.aload_n 0, 1) := by decide +kernel
theorem dX1_append_59 : decode cX1_append 59 = .ok (.dup, 1) := by decide +kernel
theorem dX1_append_60 : decode cX1_append 60 = .ok (.getfield 18, 3) := by decide +kernel
theorem dX1_append_63 : decode cX1_append 63 = .ok (.iconst 1, 1) := by decide +kernel
theorem dX1_append_64 : decode cX1_append 64 = .ok (.iadd, 1) := by decide +kernel
theorem dX1_append_65 : decode cX1_append 65 = .ok (.putfield 18, 3) := by decide +kernel
theorem dX1_append_68 : decode cX1_append 68 = .ok (.return_, 1) := by decide +kernel
theorem dX1_appendAll_0 : decode cX1_appendAll 0 = .ok (.iconst 0, 1) := by decide +kernel
theorem dX1_appendAll_1 : decode cX1_appendAll 1 = .ok (.istore_n 2, 1) := by decide +kernel
theorem dX1_appendAll_2 : decode cX1_appendAll 2 = .ok (.iload_n 2, 1) := by decide +kernel
theorem dX1_appendAll_3 : decode cX1_appendAll 3 = .ok (.aload_n 1, 1) := by decide +kernel
theorem dX1_appendAll_4 : decode cX1_appendAll 4 = .ok (.getfield 18, 3) := by decide +kernel
theorem dX1_appendAll_7 : decode cX1_appendAll 7 = .ok (.if_icmp .ge 37, 3) := by decide +kernel
theorem dX1_appendAll_10 : decode cX1_appendAll 10 = .ok (.aload_n 0, 1) := by decide +kernel
theorem dX1_appendAll_11 : decode cX1_appendAll 11 = .ok (.aload_n 1, 1) := by decide +kernel
theorem dX1_appendAll_12 : decode cX1_appendAll 12 = .ok (.iload_n 2, 1) := by decide +kernel
theorem dX1_appendAll_13 : decode cX1_appendAll 13 = .ok (.iconst 0, 1) := by decide +kernel
theorem dX1_appendAll_14 : decode cX1_appendAll 14 = .ok (.invokevirtual 28, 3) := by decide +kernel
theorem dX1_appendAll_17 : decode cX1_appendAll 17 = .ok (.aload_n 1, 1) := by decide +kernel
theorem dX1_appendAll_18 : decode cX1_appendAll 18 = .ok (.iload_n 2, 1) := by decide +kernel
theorem dX1_appendAll_19 : decode cX1_appendAll 19 = .ok (.iconst 1, 1) := by decide +kernel
theorem dX1_appendAll_20 : decode cX1_appendAll 20 = .ok (.invokevirtual 28, 3) := by decide +kernel
theorem dX1_appendAll_23 : decode cX1_appendAll 23 = .ok (.aload_n 1, 1) := by decide +kernel
theorem dX1_appendAll_24 : decode cX1_appendAll 24 = .ok (.iload_n 2, 1) := by decide +kernel
theorem dX1_appendAll_25 : decode cX1_appendAll 25 = .ok (.iconst 2, 1) := by decide +kernel
theorem dX1_appendAll_26 : decode cX1_appendAll 26 = .ok (.invokevirtual 28, 3) := by decide +kernel
theorem dX1_appendAll_29 : decode cX1_appendAll 29 = .ok (.aload_n 1, 1) := by decide +kernel
theorem dX1_appendAll_30 : decode cX1_appendAll 30 = .ok (.iload_n 2, 1) := by decide +kernel
theorem dX1_appendAll_31 : decode cX1_appendAll 31 = .ok (.iconst 3, 1) := by decide +kernel
theorem dX1_appendAll_32 : decode cX1_appendAll 32 = .ok (.invokevirtual 28, 3) := by decide +kernel
theorem dX1_appendAll_35 : decode cX1_appendAll 35 = .ok (.invokevirtual 32, 3) := by decide +kernel
theorem dX1_appendAll_38 : decode cX1_appendAll 38 = .ok (.iinc 2 1, 3) := by decide +kernel
theorem dX1_appendAll_41 : decode cX1_appendAll 41 = .ok (.goto (-39), 3) := by decide +kernel
theorem dX1_appendAll_44 : decode cX1_appendAll 44 = .ok (.return_, 1) := by decide +kernel
theorem dX1_read_0 : decode cX1_read 0 = .ok (.aload_n 0, 1) := by decide +kernel
theorem dX1_read_1 : decode cX1_read 1 = .ok (.invokevirtual 15, 3) := by decide +kernel
theorem dX1_read_4 : decode cX1_read 4 = .ok (.aload_n 1, 1) := by decide +kernel
theorem dX1_read_5 : decode cX1_read 5 = .ok (.iload_n 2, 1) := by decide +kernel
theorem dX1_read_6 : decode cX1_read 6 = .ok (.invokevirtual 36, 3) := by decide +kernel
theorem dX1_read_9 : decode cX1_read 9 = .ok (.ifCond .eq 13, 3) := by decide +kernel
theorem dX1_read_12 : decode cX1_read 12 = .ok (.aload_n 1, 1) := by decide +kernel
theorem dX1_read_13 : decode cX1_read 13 = .ok (.iload_n 2, 1) := by decide +kernel
theorem dX1_read_14 : decode cX1_read 14 = .ok (.iconst 0, 1) := by decide +kernel
theorem dX1_read_15 : decode cX1_read 15 = .ok (.invokevirtual 42, 3) := by decide +kernel
theorem dX1_read_18 : decode cX1_read 18 = .ok (.iconst 3, 1) := by decide +kernel
theorem dX1_read_19 : decode cX1_read 19 = .ok (.if_icmp .eq 4, 3) := by decide +kernel
theorem dX1_read_22 : decode cX1_read 22 = .ok (.return_, 1) := by decide +kernel
theorem dX1_read_23 : decode cX1_read 23 = .ok (.aload_n 1, 1) := by decide +kernel
theorem dX1_read_24 : decode cX1_read 24 = .ok (.iload_n 2, 1) := by decide +kernel
theorem dX1_read_25 : decode cX1_read 25 = .ok (.iconst 2, 1) := by decide +kernel
theorem dX1_read_26 : decode cX1_read 26 = .ok (.bipush 6, 2) := by decide +kernel
theorem dX1_read_28 : decode cX1_read 28 = .ok (.invokevirtual 45, 3) := by decide +kernel
theorem dX1_read_31 : decode cX1_read 31 = .ok (.lstore_n 3, 1) := by decide +kernel
theorem dX1_read_32 : decode cX1_read 32 = .ok (.aload_n 1, 1) := by decide +kernel
theorem dX1_read_33 : decode cX1_read 33 = .ok (.iload_n 2, 1) := by decide +kernel
theorem dX1_read_34 : decode cX1_read 34 = .ok (.bipush 48, 2) := by decide +kernel
theorem dX1_read_36 : decode cX1_read 36 = .ok (.bipush 8, 2) := by decide +kernel
theorem dX1_read_38 : decode cX1_read 38 = .ok (.invokevirtual 45, 3) := by decide +kernel
theorem dX1_read_41 : decode cX1_read 41 = .ok (.lstore 5, 2) := by decide +kernel
theorem dX1_read_43 : decode cX1_read 43 = .ok (.lload_n 3, 1) := by decide +kernel
theorem dX1_read_44 : decode cX1_read 44 = .ok (.invokestatic 49, 3) := by decide +kernel
theorem dX1_read_47 : decode cX1_read 47 = .ok (.ifCond .eq 26, 3) := by decide +kernel
theorem dX1_read_50 : decode cX1_read 50 = .ok (.lload 5, 2) := by decide +kernel
theorem dX1_read_52 : decode cX1_read 52 = .ok (.invokestatic 49, 3) := by decide +kernel
theorem dX1_read_55 : decode cX1_read 55 = .ok (.ifCond .eq 18, 3) := by decide +kernel
theorem dX1_read_58 : decode cX1_read 58 = .ok (.lload_n 3, 1) := by decide +kernel
theorem dX1_read_59 : decode cX1_read 59 = .ok (.ldc2_w 53, 3) := by decide +kernel
theorem dX1_read_62 : decode cX1_read 62 = .ok (.lrem, 1) := by decide +kernel
theorem dX1_read_63 : decode cX1_read 63 = .ok (.iload_n 2, 1) := by decide +kernel
theorem dX1_read_64 : decode cX1_read 64 = .ok (.i2l, 1) := by decide +kernel
theorem dX1_read_65 : decode cX1_read 65 = .ok (.lcmp, 1) := by decide +kernel
theorem dX1_read_66 : decode cX1_read 66 = .ok (.ifCond .ne 7, 3) := by decide +kernel
theorem dX1_read_69 : decode cX1_read 69 = .ok (.iconst 1, 1) := by decide +kernel
theorem dX1_read_70 : decode cX1_read 70 = .ok (.goto 4, 3) := by decide +kernel
theorem dX1_read_73 : decode cX1_read 73 = .ok (.iconst 0, 1) := by decide +kernel
theorem dX1_read_74 : decode cX1_read 74 = .ok (.istore 7, 2) := by decide +kernel
theorem dX1_read_76 : decode cX1_read 76 = .ok (.iload 7, 2) := by decide +kernel
theorem dX1_read_78 : decode cX1_read 78 = .ok (.ifCond .eq 12, 3) := by decide +kernel
theorem dX1_read_81 : decode cX1_read 81 = .ok (.aload_n 0, 1) := by decide +kernel
theorem dX1_read_82 : decode cX1_read 82 = .ok (.aload_n 1, 1) := by decide +kernel
theorem dX1_read_83 : decode cX1_read 83 = .ok (.iload_n 2, 1) := by decide +kernel
theorem dX1_read_84 : decode cX1_read 84 = .ok (.invokevirtual 55, 3) := by decide +kernel
theorem dX1_read_87 : decode cX1_read 87 = .ok (.ifCond .ne 8, 3) := by decide +kernel
theorem dX1_read_90 : decode cX1_read 90 = .ok (.aload_n 0, 1) := by decide +kernel
theorem dX1_read_91 : decode cX1_read 91 = .ok (.invokevirtual 15, 3) := by decide +kernel
theorem dX1_read_94 : decode cX1_read 94 = .ok (.return_, 1) := by decide +kernel
theorem dX1_read_95 : decode cX1_read 95 = .ok (.aload_n 0, 1) := by decide +kernel
theorem dX1_read_96 : decode cX1_read 96 = .ok (.lload_n 3, 1) := by decide +kernel
theorem dX1_read_97 : decode cX1_read 97 = .ok (.l2i, 1) := by decide +kernel
theorem dX1_read_98 : decode cX1_read 98 = .ok (.putfield 22, 3) := by decide +kernel
theorem dX1_read_101 : decode cX1_read 101 = .ok (.aload_n 0, 1) := by decide +kernel
theorem dX1_read_102 : decode cX1_read 102 = .ok (.lload 5, 2) := by decide +kernel
theorem dX1_read_104 : decode cX1_read 104 = .ok (.l2i, 1) := by decide +kernel
theorem dX1_read_105 : decode cX1_read 105 = .ok (.putfield 25, 3) := by decide +kernel
theorem dX1_read_108 : decode cX1_read 108 = .ok (.return_, 1) := by decide +kernel
theorem dX1_inRange_0 : decode cX1_inRange 0 = .ok (.lload_n 0, 1) := by decide +kernel
theorem dX1_inRange_1 : decode cX1_inRange 1 = .ok (.lconst 1, 1) := by decide +kernel
theorem dX1_inRange_2 : decode cX1_inRange 2 = .ok (.lcmp, 1) := by decide +kernel
theorem dX1_inRange_3 : decode cX1_inRange 3 = .ok (.ifCond .lt 15, 3) := by decide +kernel
theorem dX1_inRange_6 : decode cX1_inRange 6 = .ok (.lload_n 0, 1) := by decide +kernel
theorem dX1_inRange_7 : decode cX1_inRange 7 = .ok (.ldc2_w 59, 3) := by decide +kernel
theorem dX1_inRange_10 : decode cX1_inRange 10 = .ok (.lcmp, 1) := by decide +kernel
theorem dX1_inRange_11 : decode cX1_inRange 11 = .ok (.ifCond .gt 7, 3) := by decide +kernel
theorem dX1_inRange_14 : decode cX1_inRange 14 = .ok (.iconst 1, 1) := by decide +kernel
theorem dX1_inRange_15 : decode cX1_inRange 15 = .ok (.goto 4, 3) := by decide +kernel
theorem dX1_inRange_18 : decode cX1_inRange 18 = .ok (.iconst 0, 1) := by decide +kernel
theorem dX1_inRange_19 : decode cX1_inRange 19 = .ok (.ireturn, 1) := by decide +kernel
theorem dX1_readFiles_0 : decode cX1_readFiles 0 = .ok (.aload_n 1, 1) := by decide +kernel
theorem dX1_readFiles_1 : decode cX1_readFiles 1 = .ok (.iload_n 2, 1) := by decide +kernel
theorem dX1_readFiles_2 : decode cX1_readFiles 2 = .ok (.iconst 1, 1) := by decide +kernel
theorem dX1_readFiles_3 : decode cX1_readFiles 3 = .ok (.invokevirtual 42, 3) := by decide +kernel
theorem dX1_readFiles_6 : decode cX1_readFiles 6 = .ok (.istore_n 3, 1) := by decide +kernel
theorem dX1_readFiles_7 : decode cX1_readFiles 7 = .ok (.iload_n 3, 1) := by decide +kernel
theorem dX1_readFiles_8 : decode cX1_readFiles 8 = .ok (.iconst 5, 1) := by decide +kernel
theorem dX1_readFiles_9 : decode cX1_readFiles 9 = .ok (.if_icmp .le 5, 3) := by decide +kernel
theorem dX1_readFiles_12 : decode cX1_readFiles 12 = .ok (.iconst 0, 1) := by decide +kernel
theorem dX1_readFiles_13 : decode cX1_readFiles 13 = .ok (.ireturn, 1) := by decide +kernel
theorem dX1_readFiles_14 : decode cX1_readFiles 14 = .ok (.iconst 0, 1) := by decide +kernel
theorem dX1_readFiles_15 : decode cX1_readFiles 15 = .ok (.istore 4, 2) := by decide +kernel
theorem dX1_readFiles_17 : decode cX1_readFiles 17 = .ok (.iload 4, 2) := by decide +kernel
theorem dX1_readFiles_19 : decode cX1_readFiles 19 = .ok (.iload_n 3, 1) := by decide +kernel
theorem dX1_readFiles_20 : decode cX1_readFiles 20 = .ok (.if_icmp .ge 136, 3) := by decide +kernel
theorem dX1_readFiles_23 : decode cX1_readFiles 23 = .ok (.aload_n 1, 1) := by decide +kernel
theorem dX1_readFiles_24 : decode cX1_readFiles 24 = .ok (.iload_n 2, 1) := by decide +kernel
theorem dX1_readFiles_25 : decode cX1_readFiles 25 = .ok (.iload 4, 2) := by decide +kernel
theorem dX1_readFiles_27 : decode cX1_readFiles 27 = .ok (.iconst 1, 1) := by decide +kernel
theorem dX1_readFiles_28 : decode cX1_readFiles 28 = .ok (.invokestatic 61, 3) := by decide +kernel
theorem dX1_readFiles_31 : decode cX1_readFiles 31 = .ok (.iconst 2, 1) := by decide +kernel
theorem dX1_readFiles_32 : decode cX1_readFiles 32 = .ok (.invokevirtual 45, 3) := by decide +kernel
theorem dX1_readFiles_35 : decode cX1_readFiles 35 = .ok (.l2i, 1) := by decide +kernel
theorem dX1_readFiles_36 : decode cX1_readFiles 36 = .ok (.istore 5, 2) := by decide +kernel
theorem dX1_readFiles_38 : decode cX1_readFiles 38 = .ok (.aload_n 1, 1) := by decide +kernel
theorem dX1_readFiles_39 : decode cX1_readFiles 39 = .ok (.iload_n 2, 1) := by decide +kernel
theorem dX1_readFiles_40 : decode cX1_readFiles 40 = .ok (.iload 4, 2) := by decide +kernel
theorem dX1_readFiles_42 : decode cX1_readFiles 42 = .ok (.iconst 2, 1) := by decide +kernel
theorem dX1_readFiles_43 : decode cX1_readFiles 43 = .ok (.invokestatic 61, 3) := by decide +kernel
theorem dX1_readFiles_46 : decode cX1_readFiles 46 = .ok (.iconst 2, 1) := by decide +kernel
theorem dX1_readFiles_47 : decode cX1_readFiles 47 = .ok (.invokevirtual 45, 3) := by decide +kernel
theorem dX1_readFiles_50 : decode cX1_readFiles 50 = .ok (.l2i, 1) := by decide +kernel
theorem dX1_readFiles_51 : decode cX1_readFiles 51 = .ok (.istore 6, 2) := by decide +kernel
theorem dX1_readFiles_53 : decode cX1_readFiles 53 = .ok (.aload_n 1, 1) := by decide +kernel
theorem dX1_readFiles_54 : decode cX1_readFiles 54 = .ok (.iload_n 2, 1) := by decide +kernel
theorem dX1_readFiles_55 : decode cX1_readFiles 55 = .ok (.iload 4, 2) := by decide +kernel
theorem dX1_readFiles_57 : decode cX1_readFiles 57 = .ok (.iconst 3, 1) := by decide +kernel
theorem dX1_readFiles_58 : decode cX1_readFiles 58 = .ok (.invokestatic 61, 3) := by decide +kernel
theorem dX1_readFiles_61 : decode cX1_readFiles 61 = .ok (.iconst 2, 1) := by decide +kernel
theorem dX1_readFiles_62 : decode cX1_readFiles 62 = .ok (.invokevirtual 45, 3) := by decide +kernel
theorem dX1_readFiles_65 : decode cX1_readFiles 65 = .ok (.l2i, 1) := by decide +kernel
theorem dX1_readFiles_66 : decode cX1_readFiles 66 = .ok (.istore 7, 2) := by decide +kernel
theorem dX1_readFiles_68 : decode cX1_readFiles 68 = .ok (.iload 5, 2) := by decide +kernel
theorem dX1_readFiles_70 : decode cX1_readFiles 70 = .ok (.iconst 2, 1) := by decide +kernel
theorem dX1_readFiles_71 : decode cX1_readFiles 71 = .ok (.if_icmp .lt 25, 3) := by decide +kernel
theorem dX1_readFiles_74 : decode cX1_readFiles 74 = .ok (.iload 6, 2) := by decide +kernel
theorem dX1_readFiles_76 : decode cX1_readFiles 76 = .ok (.iconst 1, 1) := by decide +kernel
theorem dX1_readFiles_77 : decode cX1_readFiles 77 = .ok (.if_icmp .lt 19, 3) := by decide +kernel
theorem dX1_readFiles_80 : decode cX1_readFiles 80 = .ok (.iload 5, 2) := by decide +kernel
theorem dX1_readFiles_82 : decode cX1_readFiles 82 = .ok (.iload 6, 2) := by decide +kernel
theorem dX1_readFiles_84 : decode cX1_readFiles 84 = .ok (.iadd, 1) := by decide +kernel
theorem dX1_readFiles_85 : decode cX1_readFiles 85 = .ok (.aload_n 1, 1) := by decide +kernel
theorem dX1_readFiles_86 : decode cX1_readFiles 86 = .ok (.getfield 64, 3) := by decide +kernel
theorem dX1_readFiles_89 : decode cX1_readFiles 89 = .ok (.if_icmp .gt 7, 3) := by decide +kernel
theorem dX1_readFiles_92 : decode cX1_readFiles 92 = .ok (.iconst 1, 1) := by decide +kernel
theorem dX1_readFiles_93 : decode cX1_readFiles 93 = .ok (.goto 4, 3) := by decide +kernel
theorem dX1_readFiles_96 : decode cX1_readFiles 96 = .ok (.iconst 0, 1) := by decide +kernel
theorem dX1_readFiles_97 : decode cX1_readFiles 97 = .ok (.istore 8, 2) := by decide +kernel
theorem dX1_readFiles_99 : decode cX1_readFiles 99 = .ok (.iload 8, 2) := by decide +kernel
theorem dX1_readFiles_101 : decode cX1_readFiles 101 = .ok (.ifCond .eq 24, 3) := by decide +kernel
theorem dX1_readFiles_104 : decode cX1_readFiles 104 = .ok (.iload 7, 2) := by decide +kernel
theorem dX1_readFiles_106 : decode cX1_readFiles 106 = .ok (.invokestatic 67, 3) := by decide +kernel
theorem dX1_readFiles_109 : decode cX1_readFiles 109 = .ok (.iload 6, 2) := by decide +kernel
theorem dX1_readFiles_111 : decode cX1_readFiles 111 = .ok (.if_icmp .ne 14, 3) := by decide +kernel
theorem dX1_readFiles_114 : decode cX1_readFiles 114 = .ok (.aload_n 0, 1) := by decide +kernel
theorem dX1_readFiles_115 : decode cX1_readFiles 115 = .ok (.iload 5, 2) := by decide +kernel
theorem dX1_readFiles_117 : decode cX1_readFiles 117 = .ok (.iload 6, 2) := by decide +kernel
theorem dX1_readFiles_119 : decode cX1_readFiles 119 = .ok (.invokevirtual 71, 3) := by decide +kernel
theorem dX1_readFiles_122 : decode cX1_readFiles 122 = .ok (.ifCond .eq 5, 3) := by decide +kernel
theorem dX1_readFiles_125 : decode cX1_readFiles 125 = .ok (.iconst 0, 1) := by decide +kernel
theorem dX1_readFiles_126 : decode cX1_readFiles 126 = .ok (.ireturn, 1) := by decide +kernel
theorem dX1_readFiles_127 : decode cX1_readFiles 127 = .ok (.aload_n 0, 1) := by decide +kernel
theorem dX1_readFiles_128 : decode cX1_readFiles 128 = .ok (.aload_n 1, 1) := by decide +kernel
theorem dX1_readFiles_129 : decode cX1_readFiles 129 = .ok (.iload_n 2, 1) := by decide +kernel
theorem dX1_readFiles_130 : decode cX1_readFiles 130 = .ok (.iload 4, 2) := by decide +kernel
theorem dX1_readFiles_132 : decode cX1_readFiles 132 = .ok (.iconst 0, 1) := by decide +kernel
theorem dX1_readFiles_133 : decode cX1_readFiles 133 = .ok (.invokestatic 61, 3) := by decide +kernel
theorem dX1_readFiles_136 : decode cX1_readFiles 136 = .ok (.iconst 2, 1) := by decide +kernel
theorem dX1_readFiles_137 : decode cX1_readFiles 137 = .ok (.invokevirtual 45, 3) := by decide +kernel
theorem dX1_readFiles_140 : decode cX1_readFiles 140 = .ok (.l2i, 1) := by decide +kernel
theorem dX1_readFiles_141 : decode cX1_readFiles 141 = .ok (.iload 5, 2) := by decide +kernel
theorem dX1_readFiles_143 : decode cX1_readFiles 143 = .ok (.iload 6, 2) := by decide +kernel
theorem dX1_readFiles_145 : decode cX1_readFiles 145 = .ok (.iload 7, 2) := by decide +kernel
theorem dX1_readFiles_147 : decode cX1_readFiles 147 = .ok (.invokevirtual 32, 3) := by decide +kernel
theorem dX1_readFiles_150 : decode cX1_readFiles 150 = .ok (.iinc 4 1, 3) := by decide +kernel
theorem dX1_readFiles_153 : decode cX1_readFiles 153 = .ok (.goto (-136), 3) := by decide +kernel
theorem dX1_readFiles_156 : decode cX1_readFiles 156 = .ok (.iconst 1, 1) := by decide +kernel
theorem dX1_readFiles_157 : decode cX1_readFiles 157 = .ok (.ireturn, 1) := by decide +kernel
theorem dX1_overlaps_0 : decode cX1_overlaps 0 = .ok (.iconst 0, 1) := by decide +kernel
theorem dX1_overlaps_1 : decode cX1_overlaps 1 = .ok (.istore_n 3, 1) := by decide +kernel
theorem dX1_overlaps_2 : decode cX1_overlaps 2 = .ok (.iload_n 3, 1) := by decide +kernel
theorem dX1_overlaps_3 : decode cX1_overlaps 3 = .ok (.aload_n 0, 1) := by decide +kernel
theorem dX1_overlaps_4 : decode cX1_overlaps 4 = .ok (.getfield 18, 3) := by decide +kernel
theorem dX1_overlaps_7 : decode cX1_overlaps 7 = .ok (.if_icmp .ge 40, 3) := by decide +kernel
theorem dX1_overlaps_10 : decode cX1_overlaps 10 = .ok (.iload_n 1, 1) := by decide +kernel
theorem dX1_overlaps_11 : decode cX1_overlaps 11 = .ok (.aload_n 0, 1) := by decide +kernel
theorem dX1_overlaps_12 : decode cX1_overlaps 12 = .ok (.iload_n 3, 1) := by decide +kernel
theorem dX1_overlaps_13 : decode cX1_overlaps 13 = .ok (.iconst 1, 1) := by decide +kernel
theorem dX1_overlaps_14 : decode cX1_overlaps 14 = .ok (.invokevirtual 28, 3) := by decide +kernel
theorem dX1_overlaps_17 : decode cX1_overlaps 17 = .ok (.aload_n 0, 1) := by decide +kernel
theorem dX1_overlaps_18 : decode cX1_overlaps 18 = .ok (.iload_n 3, 1) := by decide +kernel
theorem dX1_overlaps_19 : decode cX1_overlaps 19 = .ok (.iconst 2, 1) := by decide +kernel
theorem dX1_overlaps_20 : decode cX1_overlaps 20 = .ok (.invokevirtual 28, 3) := by decide +kernel
theorem dX1_overlaps_23 : decode cX1_overlaps 23 = .ok (.iadd, 1) := by decide +kernel
theorem dX1_overlaps_24 : decode cX1_overlaps 24 = .ok (.if_icmp .ge 17, 3) := by decide +kernel
theorem dX1_overlaps_27 : decode cX1_overlaps 27 = .ok (.aload_n 0, 1) := by decide +kernel
theorem dX1_overlaps_28 : decode cX1_overlaps 28 = .ok (.iload_n 3, 1) := by decide +kernel
theorem dX1_overlaps_29 : decode cX1_overlaps 29 = .ok (.iconst 1, 1) := by decide +kernel
theorem dX1_overlaps_30 : decode cX1_overlaps 30 = .ok (.invokevirtual 28, 3) := by decide +kernel
theorem dX1_overlaps_33 : decode cX1_overlaps 33 = .ok (.iload_n 1, 1) := by decide +kernel
theorem dX1_overlaps_34 : decode cX1_overlaps 34 = .ok (.iload_n 2, 1) := by decide +kernel
theorem dX1_overlaps_35 : decode cX1_overlaps 35 = .ok (.iadd, 1) := by decide +kernel
theorem dX1_overlaps_36 : decode cX1_overlaps 36 = .ok (.if_icmp .ge 5, 3) := by decide +kernel
theorem dX1_overlaps_39 : decode cX1_overlaps 39 = .ok (.iconst 1, 1) := by decide +kernel
theorem dX1_overlaps_40 : decode cX1_overlaps 40 = .ok (.ireturn, 1) := by decide +kernel
theorem dX1_overlaps_41 : decode cX1_overlaps 41 = .ok (.iinc 3 1, 3) := by decide +kernel
theorem dX1_overlaps_44 : decode cX1_overlaps 44 = .ok (.goto (-42), 3) := by decide +kernel
theorem dX1_overlaps_47 : decode cX1_overlaps 47 = .ok (.iconst 0, 1) := by decide +kernel
theorem dX1_overlaps_48 : decode cX1_overlaps 48 = .ok (.ireturn, 1) := by decide +kernel
end
section
theorem dX5_init_0 : decode cX5_init 0 = .ok (.aload_n 0, 1) := by decide +kernel
theorem dX5_init_1 : decode cX5_init 1 = .ok (.invokespecial 3, 3) := by decide +kernel
theorem dX5_init_4 : decode cX5_init 4 = .ok (.aload_n 0, 1) := by decide +kernel
theorem dX5_init_5 : decode cX5_init 5 = .ok (.new 9, 3) := by decide +kernel
theorem dX5_init_8 : decode cX5_init 8 = .ok (.dup, 1) := by decide +kernel
theorem dX5_init_9 : decode cX5_init 9 = .ok (.bipush 16, 2) := by decide +kernel
theorem dX5_init_11 : decode cX5_init 11 = .ok (.invokespecial 11, 3) := by decide +kernel
theorem dX5_init_14 : decode cX5_init 14 = .ok (.putfield 14, 3) := by decide +kernel
theorem dX5_init_17 : decode cX5_init 17 = .ok (.aload_n 0, 1) := by decide +kernel
theorem dX5_init_18 : decode cX5_init 18 = .ok (.new 18, 3) := by decide +kernel
theorem dX5_init_21 : decode cX5_init 21 = .ok (.dup, 1) := by decide +kernel
theorem dX5_init_22 : decode cX5_init 22 = .ok (.bipush 16, 2) := by decide +kernel
theorem dX5_init_24 : decode cX5_init 24 = .ok (.invokespecial 20, 3) := by decide +kernel
theorem dX5_init_27 : decode cX5_init 27 = .ok (.putfield 21, 3) := by decide +kernel
theorem dX5_init_30 : decode cX5_init 30 = .ok (.aload_n 0, 1) := by decide +kernel
theorem dX5_init_31 : decode cX5_init 31 = .ok (.new 25, 3) := by decide +kernel
theorem dX5_init_34 : decode cX5_init 34 = .ok (.dup, 1) := by decide +kernel
theorem dX5_init_35 : decode cX5_init 35 = .ok (.invokespecial 27, 3) := by decide +kernel
theorem dX5_init_38 : decode cX5_init 38 = .ok (.putfield 28, 3) := by decide +kernel
theorem dX5_init_41 : decode cX5_init 41 = .ok (.aload_n 0, 1) := by decide +kernel
theorem dX5_init_42 : decode cX5_init 42 = .ok (.new 32, 3) := by decide +kernel
theorem dX5_init_45 : decode cX5_init 45 = .ok (.dup, 1) := by decide +kernel
theorem dX5_init_46 : decode cX5_init 46 = .ok (.invokespecial 34, 3) := by decide +kernel
theorem dX5_init_49 : decode cX5_init 49 = .ok (.putfield 35, 3) := by decide +kernel
theorem dX5_init_52 : decode cX5_init 52 = .ok (.aload_n 0, 1) := by decide +kernel
theorem dX5_init_53 : decode cX5_init 53 = .ok (.new 39, 3) := by decide +kernel
theorem dX5_init_56 : decode cX5_init 56 = .ok (.dup, 1) := by decide +kernel
theorem dX5_init_57 : decode cX5_init 57 = .ok (.invokespecial 41, 3) := by decide +kernel
theorem dX5_init_60 : decode cX5_init 60 = .ok (.putfield 42, 3) := by decide +kernel
theorem dX5_init_63 : decode cX5_init 63 = .ok (.aload_n 0, 1) := by decide +kernel
theorem dX5_init_64 : decode cX5_init 64 = .ok (.new 39, 3) := by decide +kernel
theorem dX5_init_67 : decode cX5_init 67 = .ok (.dup, 1) := by decide +kernel
theorem dX5_init_68 : decode cX5_init 68 = .ok (.invokespecial 41, 3) := by decide +kernel
theorem dX5_init_71 : decode cX5_init 71 = .ok (.putfield 46, 3) := by decide +kernel
theorem dX5_init_74 : decode cX5_init 74 = .ok (.aload_n 0, 1) := by decide +kernel
theorem dX5_init_75 : decode cX5_init 75 = .ok (.iconst 1, 1) := by decide +kernel
theorem dX5_init_76 : decode cX5_init 76 = .ok (.putfield 49, 3) := by decide +kernel
theorem dX5_init_79 : decode cX5_init 79 = .ok (.aload_n 0, 1) := by decide +kernel
theorem dX5_init_80 : decode cX5_init 80 = .ok (.iconst 1, 1) := by decide +kernel
theorem dX5_init_81 : decode cX5_init 81 = .ok (.putfield 53, 3) := by decide +kernel
theorem dX5_init_84 : decode cX5_init 84 = .ok (.return_, 1) := by decide +kernel
theorem dX5_format_0 : decode cX5_format 0 = .ok (.iload_n 1, 1) := by decide +kernel
theorem dX5_format_1 : decode cX5_format 1 = .ok (.iconst 4, 1) := by decide +kernel
theorem dX5_format_2 : decode cX5_format 2 = .ok (.if_icmp .lt 9, 3) := by decide +kernel
theorem dX5_format_5 : decode cX5_format 5 = .ok (.iload_n 1, 1) := by decide +kernel
theorem dX5_format_6 : decode cX5_format 6 = .ok (.bipush 64, 2) := by decide +kernel
theorem dX5_format_8 : decode cX5_format 8 = .ok (.if_icmp .le 5, 3) := by decide +kernel
theorem dX5_format_11 : decode cX5_format 11 = .ok (.iconst (-1), 1) := by decide +kernel
theorem dX5_format_12 : decode cX5_format 12 = .ok (.ireturn, 1) := by decide +kernel
theorem dX5_format_13 : decode cX5_format 13 = .ok (.aload_n 0, 1) := by decide +kernel
theorem dX5_format_14 : decode cX5_format 14 = .ok (.getfield 14, 3) := by decide +kernel
theorem dX5_format_17 : decode cX5_format 17 = .ok (.iload_n 1, 1) := by decide +kernel
theorem dX5_format_18 : decode cX5_format 18 = .ok (.invokevirtual 57, 3) := by decide +kernel
theorem dX5_format_21 : decode cX5_format 21 = .ok (.aload_n 0, 1) := by decide +kernel
theorem dX5_format_22 : decode cX5_format 22 = .ok (.getfield 42, 3) := by decide +kernel
theorem dX5_format_25 : decode cX5_format 25 = .ok (.invokevirtual 60, 3) := by decide +kernel
theorem dX5_format_28 : decode cX5_format 28 = .ok (.aload_n 0, 1) := by decide +kernel
theorem dX5_format_29 : decode cX5_format 29 = .ok (.invokevirtual 63, 3) := by decide +kernel
theorem dX5_format_32 : decode cX5_format 32 = .ok (.aload_n 0, 1) := by decide +kernel
theorem dX5_format_33 : decode cX5_format 33 = .ok (.iconst 1, 1) := by decide +kernel
theorem dX5_format_34 : decode cX5_format 34 = .ok (.putfield 49, 3) := by decide +kernel
theorem dX5_format_37 : decode cX5_format 37 = .ok (.iconst 0, 1) := by decide +kernel
theorem dX5_format_38 : decode cX5_format 38 = .ok (.ireturn, 1) := by decide +kernel
theorem dX5_add_0 : decode cX5_add 0 = .ok (.aload_n 0, 1) := by decide +kernel
theorem dX5_add_1 : decode cX5_add 1 = .ok (.getfield 49, 3) := by decide +kernel
theorem dX5_add_4 : decode cX5_add 4 = .ok (.ifCond .ne 6, 3) := by decide +kernel
theorem dX5_add_7 : decode cX5_add 7 = .ok (.bipush (-4), 2) := by decide +kernel
theorem dX5_add_9 : decode cX5_add 9 = .ok (.ireturn, 1) := by decide +kernel
theorem dX5_add_10 : decode cX5_add 10 = .ok (.aload_n 0, 1) := by decide +kernel
theorem dX5_add_11 : decode cX5_add 11 = .ok (.getfield 66, 3) := by decide +kernel
theorem dX5_add_14 : decode cX5_add 14 = .ok (.iconst 1, 1) := by decide +kernel
theorem dX5_add_15 : decode cX5_add 15 = .ok (.iadd, 1) := by decide +kernel
theorem dX5_add_16 : decode cX5_add 16 = .ok (.iconst 3, 1) := by decide +kernel
theorem dX5_add_17 : decode cX5_add 17 = .ok (.if_icmp .lt 7, 3) := by decide +kernel
theorem dX5_add_20 : decode cX5_add 20 = .ok (.iconst 1, 1) := by decide +kernel
theorem dX5_add_21 : decode cX5_add 21 = .ok (.goto 4, 3) := by decide +kernel
theorem dX5_add_24 : decode cX5_add 24 = .ok (.iconst 0, 1) := by decide +kernel
theorem dX5_add_25 : decode cX5_add 25 = .ok (.istore 5, 2) := by decide +kernel
theorem dX5_add_27 : decode cX5_add 27 = .ok (.iload 5, 2) := by decide +kernel
theorem dX5_add_29 : decode cX5_add 29 = .ok (.ifCond .eq 18, 3) := by decide +kernel
theorem dX5_add_32 : decode cX5_add 32 = .ok (.aload_n 0, 1) := by decide +kernel
theorem dX5_add_33 : decode cX5_add 33 = .ok (.getfield 21, 3) := by decide +kernel
theorem dX5_add_36 : decode cX5_add 36 = .ok (.invokevirtual 69, 3) := by decide +kernel
theorem dX5_add_39 : decode cX5_add 39 = .ok (.bipush (-2), 2) := by decide +kernel
theorem dX5_add_41 : decode cX5_add 41 = .ok (.if_icmp .ne 6, 3) := by decide +kernel
theorem dX5_add_44 : decode cX5_add 44 = .ok (.bipush (-3), 2) := by decide +kernel
theorem dX5_add_46 : decode cX5_add 46 = .ok (.ireturn, 1) := by decide +kernel
theorem dX5_add_47 : decode cX5_add 47 = .ok (.aload_n 0, 1) := by decide +kernel
theorem dX5_add_48 : decode cX5_add 48 = .ok (.getfield 53, 3) := by decide +kernel
theorem dX5_add_51 : decode cX5_add 51 = .ok (.istore 6, 2) := by decide +kernel
theorem dX5_add_53 : decode cX5_add 53 = .ok (.aload_n 0, 1) := by decide +kernel
theorem dX5_add_54 : decode cX5_add 54 = .ok (.getfield 35, 3) := by decide +kernel
theorem dX5_add_57 : decode cX5_add 57 = .ok (.lload_n 1, 1) := by decide +kernel
theorem dX5_add_58 : decode cX5_add 58 = .ok (.lload_n 3, 1) := by decide +kernel
theorem dX5_add_59 : decode cX5_add 59 = .ok (.iload 6, 2) := by decide +kernel
theorem dX5_add_61 : decode cX5_add 61 = .ok (.invokevirtual 73, 3) := by decide +kernel
theorem dX5_add_64 : decode cX5_add 64 = .ok (.aload_n 0, 1) := by decide +kernel
theorem dX5_add_65 : decode cX5_add 65 = .ok (.dup, 1) := by decide +kernel
theorem dX5_add_66 : decode cX5_add 66 = .ok (.getfield 53, 3) := by decide +kernel
theorem dX5_add_69 : decode cX5_add 69 = .ok (.iconst 1, 1) := by decide +kernel
theorem dX5_add_70 : decode cX5_add 70 = .ok (.iadd, 1) := by decide +kernel
theorem dX5_add_71 : decode cX5_add 71 = .ok (.putfield 53, 3) := by decide +kernel
theorem dX5_add_74 : decode cX5_add 74 = .ok (.aload_n 0, 1) := by decide +kernel
theorem dX5_add_75 : decode cX5_add 75 = .ok (.dup, 1) := by decide +kernel
theorem dX5_add_76 : decode cX5_add 76 = .ok (.getfield 66, 3) := by decide +kernel
theorem dX5_add_79 : decode cX5_add 79 = .ok (.iconst 1, 1) := by decide +kernel
theorem dX5_add_80 : decode cX5_add 80 = .ok (.iadd, 1) := by decide +kernel
theorem dX5_add_81 : decode cX5_add 81 = .ok (.putfield 66, 3) := by decide +kernel
theorem dX5_add_84 : decode cX5_add 84 = .ok (.iload 5, 2) := by decide +kernel
theorem dX5_add_86 : decode cX5_add 86 = .ok (.ifCond .eq 14, 3) := by decide +kernel
theorem dX5_add_89 : decode cX5_add 89 = .ok (.aload_n 0, 1) := by decide +kernel
theorem dX5_add_90 : decode cX5_add 90 = .ok (.aload_n 0, 1) := by decide +kernel
theorem dX5_add_91 : decode cX5_add 91 = .ok (.getfield 21, 3) := by decide +kernel
theorem dX5_add_94 : decode cX5_add 94 = .ok (.invokevirtual 69, 3) := by decide +kernel
theorem dX5_add_97 : decode cX5_add 97 = .ok (.invokevirtual 77, 3) := by decide +kernel
theorem dX5_add_100 : decode cX5_add 100 = .ok (.iload 6, 2) := by decide +kernel
theorem dX5_add_102 : decode cX5_add 102 = .ok (.ireturn, 1) := by decide +kernel
theorem dX5_flush_0 : decode cX5_flush 0 = .ok (.aload_n 0, 1) := by decide +kernel
theorem dX5_flush_1 : decode cX5_flush 1 = .ok (.getfield 49, 3) := by decide +kernel
theorem dX5_flush_4 : decode cX5_flush 4 = .ok (.ifCond .ne 6, 3) := by decide +kernel
theorem dX5_flush_7 : decode cX5_flush 7 = .ok (.bipush (-4), 2) := by decide +kernel
theorem dX5_flush_9 : decode cX5_flush 9 = .ok (.ireturn, 1) := by decide +kernel
theorem dX5_flush_10 : decode cX5_flush 10 = .ok (.aload_n 0, 1) := by decide +kernel
theorem dX5_flush_11 : decode cX5_flush 11 = .ok (.getfield 66, 3) := by decide +kernel
theorem dX5_flush_14 : decode cX5_flush 14 = .ok (.ifCond .ne 5, 3) := by decide +kernel
theorem dX5_flush_17 : decode cX5_flush 17 = .ok (.iconst 0, 1) := by decide +kernel
theorem dX5_flush_18 : decode cX5_flush 18 = .ok (.ireturn, 1) := by decide +kernel
theorem dX5_flush_19 : decode cX5_flush 19 = .ok (.aload_n 0, 1) := by decide +kernel
theorem dX5_flush_20 : decode cX5_flush 20 = .ok (.getfield 21, 3) := by decide +kernel
theorem dX5_flush_23 : decode cX5_flush 23 = .ok (.invokevirtual 69, 3) := by decide +kernel
theorem dX5_flush_26 : decode cX5_flush 26 = .ok (.istore_n 1, 1) := by decide +kernel
theorem dX5_flush_27 : decode cX5_flush 27 = .ok (.iload_n 1, 1) := by decide +kernel
theorem dX5_flush_28 : decode cX5_flush 28 = .ok (.bipush (-2), 2) := by decide +kernel
theorem dX5_flush_30 : decode cX5_flush 30 = .ok (.if_icmp .ne 6, 3) := by decide +kernel
theorem dX5_flush_33 : decode cX5_flush 33 = .ok (.bipush (-3), 2) := by decide +kernel
theorem dX5_flush_35 : decode cX5_flush 35 = .ok (.ireturn, 1) := by decide +kernel
theorem dX5_flush_36 : decode cX5_flush 36 = .ok (.aload_n 0, 1) := by decide +kernel
theorem dX5_flush_37 : decode cX5_flush 37 = .ok (.getfield 66, 3) := by decide +kernel
theorem dX5_flush_40 : decode cX5_flush 40 = .ok (.istore_n 2, 1) := by decide +kernel
theorem dX5_flush_41 : decode cX5_flush 41 = .ok (.aload_n 0, 1) := by decide +kernel
theorem dX5_flush_42 : decode cX5_flush 42 = .ok (.iload_n 1, 1) := by decide +kernel
theorem dX5_flush_43 : decode cX5_flush 43 = .ok (.invokevirtual 77, 3) := by decide +kernel
theorem dX5_flush_46 : decode cX5_flush 46 = .ok (.iload_n 2, 1) := by decide +kernel
theorem dX5_flush_47 : decode cX5_flush 47 = .ok (.ireturn, 1) := by decide +kernel
theorem dX5_sync_0 : decode cX5_sync 0 = .ok (.aload_n 0, 1) := by decide +kernel
theorem dX5_sync_1 : decode cX5_sync 1 = .ok (.getfield 49, 3) := by decide +kernel
theorem dX5_sync_4 : decode cX5_sync 4 = .ok (.ifCond .ne 6, 3) := by decide +kernel
theorem dX5_sync_7 : decode cX5_sync 7 = .ok (.bipush (-4), 2) := by decide +kernel
theorem dX5_sync_9 : decode cX5_sync 9 = .ok (.ireturn, 1) := by decide +kernel
theorem dX5_sync_10 : decode cX5_sync 10 = .ok (.aload_n 0, 1) := by decide +kernel
theorem dX5_sync_11 : decode cX5_sync 11 = .ok (.aload_n 0, 1) := by decide +kernel
theorem dX5_sync_12 : decode cX5_sync 12 = .ok (.getfield 53, 3) := by decide +kernel
theorem dX5_sync_15 : decode cX5_sync 15 = .ok (.iconst 1, 1) := by decide +kernel
theorem dX5_sync_16 : decode cX5_sync 16 = .ok (.isub, 1) := by decide +kernel
theorem dX5_sync_17 : decode cX5_sync 17 = .ok (.aload_n 0, 1) := by decide +kernel
theorem dX5_sync_18 : decode cX5_sync 18 = .ok (.getfield 66, 3) := by decide +kernel
theorem dX5_sync_21 : decode cX5_sync 21 = .ok (.isub, 1) := by decide +kernel
theorem dX5_sync_22 : decode cX5_sync 22 = .ok (.putfield 80, 3) := by decide +kernel
theorem dX5_sync_25 : decode cX5_sync 25 = .ok (.aload_n 0, 1) := by decide +kernel
theorem dX5_sync_26 : decode cX5_sync 26 = .ok (.getfield 28, 3) := by decide +kernel
theorem dX5_sync_29 : decode cX5_sync 29 = .ok (.aload_n 0, 1) := by decide +kernel
theorem dX5_sync_30 : decode cX5_sync 30 = .ok (.getfield 14, 3) := by decide +kernel
theorem dX5_sync_33 : decode cX5_sync 33 = .ok (.aload_n 0, 1) := by decide +kernel
theorem dX5_sync_34 : decode cX5_sync 34 = .ok (.getfield 28, 3) := by decide +kernel
theorem dX5_sync_37 : decode cX5_sync 37 = .ok (.invokevirtual 83, 3) := by decide +kernel
theorem dX5_sync_40 : decode cX5_sync 40 = .ok (.invokevirtual 86, 3) := by decide +kernel
theorem dX5_sync_43 : decode cX5_sync 43 = .ok (.ireturn, 1) := by decide +kernel
theorem dX5_commit_0 : decode cX5_commit 0 = .ok (.iload_n 1, 1) := by decide +kernel
theorem dX5_commit_1 : decode cX5_commit 1 = .ok (.iconst (-1), 1) := by decide +kernel
theorem dX5_commit_2 : decode cX5_commit 2 = .ok (.if_icmp .ge 5, 3) := by decide +kernel
theorem dX5_commit_5 : decode cX5_commit 5 = .ok (.iconst (-1), 1) := by decide +kernel
theorem dX5_commit_6 : decode cX5_commit 6 = .ok (.ireturn, 1) := by decide +kernel
theorem dX5_commit_7 : decode cX5_commit 7 = .ok (.aload_n 0, 1) := by decide +kernel
theorem dX5_commit_8 : decode cX5_commit 8 = .ok (.getfield 49, 3) := by decide +kernel
theorem dX5_commit_11 : decode cX5_commit 11 = .ok (.ifCond .ne 6, 3) := by decide +kernel
theorem dX5_commit_14 : decode cX5_commit 14 = .ok (.bipush (-4), 2) := by decide +kernel
theorem dX5_commit_16 : decode cX5_commit 16 = .ok (.ireturn, 1) := by decide +kernel
theorem dX5_commit_17 : decode cX5_commit 17 = .ok (.aload_n 0, 1) := by decide +kernel
theorem dX5_commit_18 : decode cX5_commit 18 = .ok (.getfield 53, 3) := by decide +kernel
theorem dX5_commit_21 : decode cX5_commit 21 = .ok (.aload_n 0, 1) := by decide +kernel
theorem dX5_commit_22 : decode cX5_commit 22 = .ok (.getfield 42, 3) := by decide +kernel
theorem dX5_commit_25 : decode cX5_commit 25 = .ok (.getfield 90, 3) := by decide +kernel
theorem dX5_commit_28 : decode cX5_commit 28 = .ok (.isub, 1) := by decide +kernel
theorem dX5_commit_29 : decode cX5_commit 29 = .ok (.istore_n 2, 1) := by decide +kernel
theorem dX5_commit_30 : decode cX5_commit 30 = .ok (.iload_n 2, 1) := by decide +kernel
theorem dX5_commit_31 : decode cX5_commit 31 = .ok (.ifCond .gt 5, 3) := by decide +kernel
theorem dX5_commit_34 : decode cX5_commit 34 = .ok (.iconst 0, 1) := by decide +kernel
theorem dX5_commit_35 : decode cX5_commit 35 = .ok (.ireturn, 1) := by decide +kernel
theorem dX5_commit_36 : decode cX5_commit 36 = .ok (.aload_n 0, 1) := by decide +kernel
theorem dX5_commit_37 : decode cX5_commit 37 = .ok (.getfield 42, 3) := by decide +kernel
theorem dX5_commit_40 : decode cX5_commit 40 = .ok (.getfield 91, 3) := by decide +kernel
theorem dX5_commit_43 : decode cX5_commit 43 = .ok (.iconst 5, 1) := by decide +kernel
theorem dX5_commit_44 : decode cX5_commit 44 = .ok (.if_icmp .ne 7, 3) := by decide +kernel
theorem dX5_commit_47 : decode cX5_commit 47 = .ok (.iconst 1, 1) := by decide +kernel
theorem dX5_commit_48 : decode cX5_commit 48 = .ok (.goto 4, 3) := by decide +kernel
theorem dX5_commit_51 : decode cX5_commit 51 = .ok (.iconst 0, 1) := by decide +kernel
theorem dX5_commit_52 : decode cX5_commit 52 = .ok (.istore_n 3, 1) := by decide +kernel
theorem dX5_commit_53 : decode cX5_commit 53 = .ok (.iload_n 3, 1) := by decide +kernel
theorem dX5_commit_54 : decode cX5_commit 54 = .ok (.ifCond .eq 13, 3) := by decide +kernel
theorem dX5_commit_57 : decode cX5_commit 57 = .ok (.aload_n 0, 1) := by decide +kernel
theorem dX5_commit_58 : decode cX5_commit 58 = .ok (.getfield 35, 3) := by decide +kernel
theorem dX5_commit_61 : decode cX5_commit 61 = .ok (.getfield 94, 3) := by decide +kernel
theorem dX5_commit_64 : decode cX5_commit 64 = .ok (.goto 4, 3) := by decide +kernel
theorem dX5_commit_67 : decode cX5_commit 67 = .ok (.iload_n 2, 1) := by decide +kernel
theorem dX5_commit_68 : decode cX5_commit 68 = .ok (.istore 4, 2) := by decide +kernel
theorem dX5_commit_70 : decode cX5_commit 70 = .ok (.iload 4, 2) := by decide +kernel
theorem dX5_commit_72 : decode cX5_commit 72 = .ok (.invokestatic 97, 3) := by decide +kernel
theorem dX5_commit_75 : decode cX5_commit 75 = .ok (.istore 5, 2) := by decide +kernel
theorem dX5_commit_77 : decode cX5_commit 77 = .ok (.aload_n 0, 1) := by decide +kernel
theorem dX5_commit_78 : decode cX5_commit 78 = .ok (.getfield 21, 3) := by decide +kernel
theorem dX5_commit_81 : decode cX5_commit 81 = .ok (.iload 5, 2) := by decide +kernel
theorem dX5_commit_83 : decode cX5_commit 83 = .ok (.invokevirtual 101, 3) := by decide +kernel
theorem dX5_commit_86 : decode cX5_commit 86 = .ok (.istore 6, 2) := by decide +kernel
theorem dX5_commit_88 : decode cX5_commit 88 = .ok (.iload 6, 2) := by decide +kernel
theorem dX5_commit_90 : decode cX5_commit 90 = .ok (.bipush (-2), 2) := by decide +kernel
theorem dX5_commit_92 : decode cX5_commit 92 = .ok (.if_icmp .ne 6, 3) := by decide +kernel
theorem dX5_commit_95 : decode cX5_commit 95 = .ok (.bipush (-3), 2) := by decide +kernel
theorem dX5_commit_97 : decode cX5_commit 97 = .ok (.ireturn, 1) := by decide +kernel
theorem dX5_commit_98 : decode cX5_commit 98 = .ok (.aload_n 0, 1) := by decide +kernel
theorem dX5_commit_99 : decode cX5_commit 99 = .ok (.iload_n 3, 1) := by decide +kernel
theorem dX5_commit_100 : decode cX5_commit 100 = .ok (.iload 6, 2) := by decide +kernel
theorem dX5_commit_102 : decode cX5_commit 102 = .ok (.iload 5, 2) := by decide +kernel
theorem dX5_commit_104 : decode cX5_commit 104 = .ok (.iload 4, 2) := by decide +kernel
theorem dX5_commit_106 : decode cX5_commit 106 = .ok (.invokevirtual 104, 3) := by decide +kernel
theorem dX5_commit_109 : decode cX5_commit 109 = .ok (.aload_n 0, 1) := by decide +kernel
theorem dX5_commit_110 : decode cX5_commit 110 = .ok (.iload_n 3, 1) := by decide +kernel
theorem dX5_commit_111 : decode cX5_commit 111 = .ok (.invokevirtual 108, 3) := by decide +kernel
theorem dX5_commit_114 : decode cX5_commit 114 = .ok (.aload_n 0, 1) := by decide +kernel
theorem dX5_commit_115 : decode cX5_commit 115 = .ok (.invokevirtual 112, 3) := by decide +kernel
theorem dX5_commit_118 : decode cX5_commit 118 = .ok (.iload_n 1, 1) := by decide +kernel
theorem dX5_commit_119 : decode cX5_commit 119 = .ok (.ifCond .lt 35, 3) := by decide +kernel
theorem dX5_commit_122 : decode cX5_commit 122 = .ok (.iload_n 1, 1) := by decide +kernel
theorem dX5_commit_123 : decode cX5_commit 123 = .ok (.aload_n 0, 1) := by decide +kernel
theorem dX5_commit_124 : decode cX5_commit 124 = .ok (.getfield 28, 3) := by decide +kernel
theorem dX5_commit_127 : decode cX5_commit 127 = .ok (.invokevirtual 83, 3) := by decide +kernel
theorem dX5_commit_130 : decode cX5_commit 130 = .ok (.if_icmp .ge 24, 3) := by decide +kernel
theorem dX5_commit_133 : decode cX5_commit 133 = .ok (.aload_n 0, 1) := by decide +kernel
theorem dX5_commit_134 : decode cX5_commit 134 = .ok (.getfield 28, 3) := by decide +kernel
theorem dX5_commit_137 : decode cX5_commit 137 = .ok (.aload_n 0, 1) := by decide +kernel
theorem dX5_commit_138 : decode cX5_commit 138 = .ok (.getfield 14, 3) := by decide +kernel
theorem dX5_commit_141 : decode cX5_commit 141 = .ok (.iload_n 1, 1) := by decide +kernel
theorem dX5_commit_142 : decode cX5_commit 142 = .ok (.invokevirtual 86, 3) := by decide +kernel
theorem dX5_commit_145 : decode cX5_commit 145 = .ok (.pop, 1) := by decide +kernel
theorem dX5_commit_146 : decode cX5_commit 146 = .ok (.aload_n 0, 1) := by decide +kernel
theorem dX5_commit_147 : decode cX5_commit 147 = .ok (.iconst 0, 1) := by decide +kernel
theorem dX5_commit_148 : decode cX5_commit 148 = .ok (.putfield 49, 3) := by decide +kernel
theorem dX5_commit_151 : decode cX5_commit 151 = .ok (.bipush (-2), 2) := by decide +kernel
theorem dX5_commit_153 : decode cX5_commit 153 = .ok (.ireturn, 1) := by decide +kernel
theorem dX5_commit_154 : decode cX5_commit 154 = .ok (.aload_n 0, 1) := by decide +kernel
theorem dX5_commit_155 : decode cX5_commit 155 = .ok (.getfield 28, 3) := by decide +kernel
theorem dX5_commit_158 : decode cX5_commit 158 = .ok (.aload_n 0, 1) := by decide +kernel
theorem dX5_commit_159 : decode cX5_commit 159 = .ok (.getfield 14, 3) := by decide +kernel
theorem dX5_commit_162 : decode cX5_commit 162 = .ok (.aload_n 0, 1) := by decide +kernel
theorem dX5_commit_163 : decode cX5_commit 163 = .ok (.getfield 28, 3) := by decide +kernel
theorem dX5_commit_166 : decode cX5_commit 166 = .ok (.invokevirtual 83, 3) := by decide +kernel
theorem dX5_commit_169 : decode cX5_commit 169 = .ok (.invokevirtual 86, 3) := by decide +kernel
theorem dX5_commit_172 : decode cX5_commit 172 = .ok (.pop, 1) := by decide +kernel
theorem dX5_commit_173 : decode cX5_commit 173 = .ok (.aload_n 0, 1) := by decide +kernel
theorem dX5_commit_174 : decode cX5_commit 174 = .ok (.iload_n 3, 1) := by decide +kernel
theorem dX5_commit_175 : decode cX5_commit 175 = .ok (.invokevirtual 115, 3) := by decide +kernel
theorem dX5_commit_178 : decode cX5_commit 178 = .ok (.aload_n 0, 1) := by decide +kernel
theorem dX5_commit_179 : decode cX5_commit 179 = .ok (.getfield 42, 3) := by decide +kernel
theorem dX5_commit_182 : decode cX5_commit 182 = .ok (.getfield 118, 3) := by decide +kernel
theorem dX5_commit_185 : decode cX5_commit 185 = .ok (.ireturn, 1) := by decide +kernel
theorem dX5_crash_0 : decode cX5_crash 0 = .ok (.iload_n 1, 1) := by decide +kernel
theorem dX5_crash_1 : decode cX5_crash 1 = .ok (.ifCond .ge 5, 3) := by decide +kernel
theorem dX5_crash_4 : decode cX5_crash 4 = .ok (.iconst (-1), 1) := by decide +kernel
theorem dX5_crash_5 : decode cX5_crash 5 = .ok (.ireturn, 1) := by decide +kernel
theorem dX5_crash_6 : decode cX5_crash 6 = .ok (.aload_n 0, 1) := by decide +kernel
theorem dX5_crash_7 : decode cX5_crash 7 = .ok (.getfield 49, 3) := by decide +kernel
theorem dX5_crash_10 : decode cX5_crash 10 = .ok (.ifCond .ne 6, 3) := by decide +kernel
theorem dX5_crash_13 : decode cX5_crash 13 = .ok (.bipush (-4), 2) := by decide +kernel
theorem dX5_crash_15 : decode cX5_crash 15 = .ok (.ireturn, 1) := by decide +kernel
theorem dX5_crash_16 : decode cX5_crash 16 = .ok (.aload_n 0, 1) := by decide +kernel
theorem dX5_crash_17 : decode cX5_crash 17 = .ok (.iconst 0, 1) := by decide +kernel
theorem dX5_crash_18 : decode cX5_crash 18 = .ok (.putfield 49, 3) := by decide +kernel
theorem dX5_crash_21 : decode cX5_crash 21 = .ok (.aload_n 0, 1) := by decide +kernel
theorem dX5_crash_22 : decode cX5_crash 22 = .ok (.getfield 28, 3) := by decide +kernel
theorem dX5_crash_25 : decode cX5_crash 25 = .ok (.aload_n 0, 1) := by decide +kernel
theorem dX5_crash_26 : decode cX5_crash 26 = .ok (.getfield 14, 3) := by decide +kernel
theorem dX5_crash_29 : decode cX5_crash 29 = .ok (.iload_n 1, 1) := by decide +kernel
theorem dX5_crash_30 : decode cX5_crash 30 = .ok (.invokevirtual 86, 3) := by decide +kernel
theorem dX5_crash_33 : decode cX5_crash 33 = .ok (.ireturn, 1) := by decide +kernel
theorem dX5_open_0 : decode cX5_open 0 = .ok (.aload_n 0, 1) := by decide +kernel
theorem dX5_open_1 : decode cX5_open 1 = .ok (.getfield 49, 3) := by decide +kernel
theorem dX5_open_4 : decode cX5_open 4 = .ok (.ifCond .eq 6, 3) := by decide +kernel
theorem dX5_open_7 : decode cX5_open 7 = .ok (.bipush (-5), 2) := by decide +kernel
theorem dX5_open_9 : decode cX5_open 9 = .ok (.ireturn, 1) := by decide +kernel
theorem dX5_open_10 : decode cX5_open 10 = .ok (.aload_n 0, 1) := by decide +kernel
theorem dX5_open_11 : decode cX5_open 11 = .ok (.invokevirtual 121, 3) := by decide +kernel
theorem dX5_open_14 : decode cX5_open 14 = .ok (.aload_n 0, 1) := by decide +kernel
theorem dX5_open_15 : decode cX5_open 15 = .ok (.invokevirtual 124, 3) := by decide +kernel
theorem dX5_open_18 : decode cX5_open 18 = .ok (.istore_n 1, 1) := by decide +kernel
theorem dX5_open_19 : decode cX5_open 19 = .ok (.iload_n 1, 1) := by decide +kernel
theorem dX5_open_20 : decode cX5_open 20 = .ok (.bipush (-2), 2) := by decide +kernel
theorem dX5_open_22 : decode cX5_open 22 = .ok (.if_icmp .eq 8, 3) := by decide +kernel
theorem dX5_open_25 : decode cX5_open 25 = .ok (.bipush (-10), 2) := by decide +kernel
theorem dX5_open_27 : decode cX5_open 27 = .ok (.iload_n 1, 1) := by decide +kernel
theorem dX5_open_28 : decode cX5_open 28 = .ok (.isub, 1) := by decide +kernel
theorem dX5_open_29 : decode cX5_open 29 = .ok (.ireturn, 1) := by decide +kernel
theorem dX5_open_30 : decode cX5_open 30 = .ok (.aload_n 0, 1) := by decide +kernel
theorem dX5_open_31 : decode cX5_open 31 = .ok (.invokevirtual 63, 3) := by decide +kernel
theorem dX5_open_34 : decode cX5_open 34 = .ok (.iconst 0, 1) := by decide +kernel
theorem dX5_open_35 : decode cX5_open 35 = .ok (.istore_n 2, 1) := by decide +kernel
theorem dX5_open_36 : decode cX5_open 36 = .ok (.iload_n 2, 1) := by decide +kernel
theorem dX5_open_37 : decode cX5_open 37 = .ok (.aload_n 0, 1) := by decide +kernel
theorem dX5_open_38 : decode cX5_open 38 = .ok (.getfield 42, 3) := by decide +kernel
theorem dX5_open_41 : decode cX5_open 41 = .ok (.getfield 91, 3) := by decide +kernel
theorem dX5_open_44 : decode cX5_open 44 = .ok (.if_icmp .ge 14, 3) := by decide +kernel
theorem dX5_open_47 : decode cX5_open 47 = .ok (.aload_n 0, 1) := by decide +kernel
theorem dX5_open_48 : decode cX5_open 48 = .ok (.iload_n 2, 1) := by decide +kernel
theorem dX5_open_49 : decode cX5_open 49 = .ok (.invokevirtual 127, 3) := by decide +kernel
theorem dX5_open_52 : decode cX5_open 52 = .ok (.iinc 2 1, 3) := by decide +kernel
theorem dX5_open_55 : decode cX5_open 55 = .ok (.goto (-19), 3) := by decide +kernel
theorem dX5_open_58 : decode cX5_open 58 = .ok (.aload_n 0, 1) := by decide +kernel
theorem dX5_open_59 : decode cX5_open 59 = .ok (.invokevirtual 130, 3) := by decide +kernel
theorem dX5_open_62 : decode cX5_open 62 = .ok (.aload_n 0, 1) := by decide +kernel
theorem dX5_open_63 : decode cX5_open 63 = .ok (.aload_n 0, 1) := by decide +kernel
theorem dX5_open_64 : decode cX5_open 64 = .ok (.getfield 53, 3) := by decide +kernel
theorem dX5_open_67 : decode cX5_open 67 = .ok (.iconst 1, 1) := by decide +kernel
theorem dX5_open_68 : decode cX5_open 68 = .ok (.isub, 1) := by decide +kernel
theorem dX5_open_69 : decode cX5_open 69 = .ok (.putfield 80, 3) := by decide +kernel
theorem dX5_open_72 : decode cX5_open 72 = .ok (.aload_n 0, 1) := by decide +kernel
theorem dX5_open_73 : decode cX5_open 73 = .ok (.iconst 1, 1) := by decide +kernel
theorem dX5_open_74 : decode cX5_open 74 = .ok (.putfield 49, 3) := by decide +kernel
theorem dX5_open_77 : decode cX5_open 77 = .ok (.aload_n 0, 1) := by decide +kernel
theorem dX5_open_78 : decode cX5_open 78 = .ok (.getfield 35, 3) := by decide +kernel
theorem dX5_open_81 : decode cX5_open 81 = .ok (.getfield 94, 3) := by decide +kernel
theorem dX5_open_84 : decode cX5_open 84 = .ok (.ireturn, 1) := by decide +kernel
theorem dX5_acknowledged_0 : decode cX5_acknowledged 0 = .ok (.aload_n 0, 1) := by decide +kernel
theorem dX5_acknowledged_1 : decode cX5_acknowledged 1 = .ok (.getfield 49, 3) := by decide +kernel
theorem dX5_acknowledged_4 : decode cX5_acknowledged 4 = .ok (.ifCond .eq 10, 3) := by decide +kernel
theorem dX5_acknowledged_7 : decode cX5_acknowledged 7 = .ok (.aload_n 0, 1) := by decide +kernel
theorem dX5_acknowledged_8 : decode cX5_acknowledged 8 = .ok (.getfield 80, 3) := by decide +kernel
theorem dX5_acknowledged_11 : decode cX5_acknowledged 11 = .ok (.goto 5, 3) := by decide +kernel
theorem dX5_acknowledged_14 : decode cX5_acknowledged 14 = .ok (.bipush (-4), 2) := by decide +kernel
theorem dX5_acknowledged_16 : decode cX5_acknowledged 16 = .ok (.ireturn, 1) := by decide +kernel
theorem dX5_get_0 : decode cX5_get 0 = .ok (.aload_n 0, 1) := by decide +kernel
theorem dX5_get_1 : decode cX5_get 1 = .ok (.getfield 35, 3) := by decide +kernel
theorem dX5_get_4 : decode cX5_get 4 = .ok (.lload_n 1, 1) := by decide +kernel
theorem dX5_get_5 : decode cX5_get 5 = .ok (.invokevirtual 133, 3) := by decide +kernel
theorem dX5_get_8 : decode cX5_get 8 = .ok (.istore_n 3, 1) := by decide +kernel
theorem dX5_get_9 : decode cX5_get 9 = .ok (.aload_n 0, 1) := by decide +kernel
theorem dX5_get_10 : decode cX5_get 10 = .ok (.getfield 49, 3) := by decide +kernel
theorem dX5_get_13 : decode cX5_get 13 = .ok (.ifCond .eq 19, 3) := by decide +kernel
theorem dX5_get_16 : decode cX5_get 16 = .ok (.iload_n 3, 1) := by decide +kernel
theorem dX5_get_17 : decode cX5_get 17 = .ok (.aload_n 0, 1) := by decide +kernel
theorem dX5_get_18 : decode cX5_get 18 = .ok (.getfield 35, 3) := by decide +kernel
theorem dX5_get_21 : decode cX5_get 21 = .ok (.lload_n 1, 1) := by decide +kernel
theorem dX5_get_22 : decode cX5_get 22 = .ok (.invokevirtual 137, 3) := by decide +kernel
theorem dX5_get_25 : decode cX5_get 25 = .ok (.if_icmp .le 7, 3) := by decide +kernel
theorem dX5_get_28 : decode cX5_get 28 = .ok (.iconst 1, 1) := by decide +kernel
theorem dX5_get_29 : decode cX5_get 29 = .ok (.goto 4, 3) := by decide +kernel
theorem dX5_get_32 : decode cX5_get 32 = .ok (.iconst 0, 1) := by decide +kernel
theorem dX5_get_33 : decode cX5_get 33 = .ok (.istore 4, 2) := by decide +kernel
theorem dX5_get_35 : decode cX5_get 35 = .ok (.iload 4, 2) := by decide +kernel
theorem dX5_get_37 : decode cX5_get 37 = .ok (.ifCond .eq 16, 3) := by decide +kernel
theorem dX5_get_40 : decode cX5_get 40 = .ok (.aload_n 0, 1) := by decide +kernel
theorem dX5_get_41 : decode cX5_get 41 = .ok (.getfield 35, 3) := by decide +kernel
theorem dX5_get_44 : decode cX5_get 44 = .ok (.iload_n 3, 1) := by decide +kernel
theorem dX5_get_45 : decode cX5_get 45 = .ok (.iconst 1, 1) := by decide +kernel
theorem dX5_get_46 : decode cX5_get 46 = .ok (.isub, 1) := by decide +kernel
theorem dX5_get_47 : decode cX5_get 47 = .ok (.invokevirtual 140, 3) := by decide +kernel
theorem dX5_get_50 : decode cX5_get 50 = .ok (.goto 4, 3) := by decide +kernel
theorem dX5_get_53 : decode cX5_get 53 = .ok (.lconst 0, 1) := by decide +kernel
theorem dX5_get_54 : decode cX5_get 54 = .ok (.lreturn, 1) := by decide +kernel
theorem dX5_times_0 : decode cX5_times 0 = .ok (.aload_n 0, 1) := by decide +kernel
theorem dX5_times_1 : decode cX5_times 1 = .ok (.getfield 49, 3) := by decide +kernel
theorem dX5_times_4 : decode cX5_times 4 = .ok (.ifCond .eq 23, 3) := by decide +kernel
theorem dX5_times_7 : decode cX5_times 7 = .ok (.aload_n 0, 1) := by decide +kernel
theorem dX5_times_8 : decode cX5_times 8 = .ok (.getfield 35, 3) := by decide +kernel
theorem dX5_times_11 : decode cX5_times 11 = .ok (.lload_n 1, 1) := by decide +kernel
theorem dX5_times_12 : decode cX5_times 12 = .ok (.invokevirtual 133, 3) := by decide +kernel
theorem dX5_times_15 : decode cX5_times 15 = .ok (.aload_n 0, 1) := by decide +kernel
theorem dX5_times_16 : decode cX5_times 16 = .ok (.getfield 35, 3) := by decide +kernel
theorem dX5_times_19 : decode cX5_times 19 = .ok (.lload_n 1, 1) := by decide +kernel
theorem dX5_times_20 : decode cX5_times 20 = .ok (.invokevirtual 137, 3) := by decide +kernel
theorem dX5_times_23 : decode cX5_times 23 = .ok (.isub, 1) := by decide +kernel
theorem dX5_times_24 : decode cX5_times 24 = .ok (.goto 5, 3) := by decide +kernel
theorem dX5_times_27 : decode cX5_times 27 = .ok (.bipush (-4), 2) := by decide +kernel
theorem dX5_times_29 : decode cX5_times 29 = .ok (.ireturn, 1) := by decide +kernel
theorem dX5_record_0 : decode cX5_record 0 = .ok (.aload_n 0, 1) := by decide +kernel
theorem dX5_record_1 : decode cX5_record 1 = .ok (.getfield 49, 3) := by decide +kernel
theorem dX5_record_4 : decode cX5_record 4 = .ok (.ifCond .eq 14, 3) := by decide +kernel
theorem dX5_record_7 : decode cX5_record 7 = .ok (.aload_n 0, 1) := by decide +kernel
theorem dX5_record_8 : decode cX5_record 8 = .ok (.getfield 35, 3) := by decide +kernel
theorem dX5_record_11 : decode cX5_record 11 = .ok (.iload_n 1, 1) := by decide +kernel
theorem dX5_record_12 : decode cX5_record 12 = .ok (.invokevirtual 144, 3) := by decide +kernel
theorem dX5_record_15 : decode cX5_record 15 = .ok (.ifCond .ne 5, 3) := by decide +kernel
theorem dX5_record_18 : decode cX5_record 18 = .ok (.lconst 0, 1) := by decide +kernel
theorem dX5_record_19 : decode cX5_record 19 = .ok (.lreturn, 1) := by decide +kernel
theorem dX5_record_20 : decode cX5_record 20 = .ok (.iload_n 2, 1) := by decide +kernel
theorem dX5_record_21 : decode cX5_record 21 = .ok (.tableswitch 59 0 2 #[27, 36, 45], 27) := by decide +kernel
theorem dX5_record_48 : decode cX5_record 48 = .ok (.aload_n 0, 1) := by decide +kernel
theorem dX5_record_49 : decode cX5_record 49 = .ok (.getfield 35, 3) := by decide +kernel
theorem dX5_record_52 : decode cX5_record 52 = .ok (.iload_n 1, 1) := by decide +kernel
theorem dX5_record_53 : decode cX5_record 53 = .ok (.invokevirtual 148, 3) := by decide +kernel
theorem dX5_record_56 : decode cX5_record 56 = .ok (.lreturn, 1) := by decide +kernel
theorem dX5_record_57 : decode cX5_record 57 = .ok (.aload_n 0, 1) := by decide +kernel
theorem dX5_record_58 : decode cX5_record 58 = .ok (.getfield 35, 3) := by decide +kernel
theorem dX5_record_61 : decode cX5_record 61 = .ok (.iload_n 1, 1) := by decide +kernel
theorem dX5_record_62 : decode cX5_record 62 = .ok (.invokevirtual 140, 3) := by decide +kernel
theorem dX5_record_65 : decode cX5_record 65 = .ok (.lreturn, 1) := by decide +kernel
theorem dX5_record_66 : decode cX5_record 66 = .ok (.aload_n 0, 1) := by decide +kernel
theorem dX5_record_67 : decode cX5_record 67 = .ok (.aload_n 0, 1) := by decide +kernel
theorem dX5_record_68 : decode cX5_record 68 = .ok (.getfield 35, 3) := by decide +kernel
theorem dX5_record_71 : decode cX5_record 71 = .ok (.iload_n 1, 1) := by decide +kernel
theorem dX5_record_72 : decode cX5_record 72 = .ok (.invokevirtual 151, 3) := by decide +kernel
theorem dX5_record_75 : decode cX5_record 75 = .ok (.invokevirtual 154, 3) := by decide +kernel
theorem dX5_record_78 : decode cX5_record 78 = .ok (.i2l, 1) := by decide +kernel
theorem dX5_record_79 : decode cX5_record 79 = .ok (.lreturn, 1) := by decide +kernel
theorem dX5_record_80 : decode cX5_record 80 = .ok (.lconst 0, 1) := by decide +kernel
theorem dX5_record_81 : decode cX5_record 81 = .ok (.lreturn, 1) := by decide +kernel
theorem dX5_file_0 : decode cX5_file 0 = .ok (.iload_n 1, 1) := by decide +kernel
theorem dX5_file_1 : decode cX5_file 1 = .ok (.ifCond .lt 17, 3) := by decide +kernel
theorem dX5_file_4 : decode cX5_file 4 = .ok (.iload_n 1, 1) := by decide +kernel
theorem dX5_file_5 : decode cX5_file 5 = .ok (.iconst 5, 1) := by decide +kernel
theorem dX5_file_6 : decode cX5_file 6 = .ok (.if_icmp .ge 12, 3) := by decide +kernel
theorem dX5_file_9 : decode cX5_file 9 = .ok (.iload_n 2, 1) := by decide +kernel
theorem dX5_file_10 : decode cX5_file 10 = .ok (.ifCond .lt 8, 3) := by decide +kernel
theorem dX5_file_13 : decode cX5_file 13 = .ok (.iload_n 2, 1) := by decide +kernel
theorem dX5_file_14 : decode cX5_file 14 = .ok (.iconst 4, 1) := by decide +kernel
theorem dX5_file_15 : decode cX5_file 15 = .ok (.if_icmp .lt 5, 3) := by decide +kernel
theorem dX5_file_18 : decode cX5_file 18 = .ok (.iconst (-1), 1) := by decide +kernel
theorem dX5_file_19 : decode cX5_file 19 = .ok (.ireturn, 1) := by decide +kernel
theorem dX5_file_20 : decode cX5_file 20 = .ok (.aload_n 0, 1) := by decide +kernel
theorem dX5_file_21 : decode cX5_file 21 = .ok (.getfield 49, 3) := by decide +kernel
theorem dX5_file_24 : decode cX5_file 24 = .ok (.ifCond .ne 6, 3) := by decide +kernel
theorem dX5_file_27 : decode cX5_file 27 = .ok (.bipush (-4), 2) := by decide +kernel
theorem dX5_file_29 : decode cX5_file 29 = .ok (.ireturn, 1) := by decide +kernel
theorem dX5_file_30 : decode cX5_file 30 = .ok (.iload_n 1, 1) := by decide +kernel
theorem dX5_file_31 : decode cX5_file 31 = .ok (.aload_n 0, 1) := by decide +kernel
theorem dX5_file_32 : decode cX5_file 32 = .ok (.getfield 42, 3) := by decide +kernel
theorem dX5_file_35 : decode cX5_file 35 = .ok (.getfield 91, 3) := by decide +kernel
theorem dX5_file_38 : decode cX5_file 38 = .ok (.if_icmp .ge 15, 3) := by decide +kernel
theorem dX5_file_41 : decode cX5_file 41 = .ok (.aload_n 0, 1) := by decide +kernel
theorem dX5_file_42 : decode cX5_file 42 = .ok (.getfield 42, 3) := by decide +kernel
theorem dX5_file_45 : decode cX5_file 45 = .ok (.iload_n 1, 1) := by decide +kernel
theorem dX5_file_46 : decode cX5_file 46 = .ok (.iload_n 2, 1) := by decide +kernel
theorem dX5_file_47 : decode cX5_file 47 = .ok (.invokevirtual 157, 3) := by decide +kernel
theorem dX5_file_50 : decode cX5_file 50 = .ok (.goto 4, 3) := by decide +kernel
theorem dX5_file_53 : decode cX5_file 53 = .ok (.iconst (-1), 1) := by decide +kernel
theorem dX5_file_54 : decode cX5_file 54 = .ok (.ireturn, 1) := by decide +kernel
theorem dX5_use_0 : decode cX5_use 0 = .ok (.aload_n 0, 1) := by decide +kernel
theorem dX5_use_1 : decode cX5_use 1 = .ok (.getfield 14, 3) := by decide +kernel
theorem dX5_use_4 : decode cX5_use 4 = .ok (.iload_n 1, 1) := by decide +kernel
theorem dX5_use_5 : decode cX5_use 5 = .ok (.iconst 0, 1) := by decide +kernel
theorem dX5_use_6 : decode cX5_use 6 = .ok (.invokevirtual 161, 3) := by decide +kernel
theorem dX5_use_9 : decode cX5_use 9 = .ok (.ifCond .ne 5, 3) := by decide +kernel
theorem dX5_use_12 : decode cX5_use 12 = .ok (.iconst (-1), 1) := by decide +kernel
theorem dX5_use_13 : decode cX5_use 13 = .ok (.ireturn, 1) := by decide +kernel
theorem dX5_use_14 : decode cX5_use 14 = .ok (.aload_n 0, 1) := by decide +kernel
theorem dX5_use_15 : decode cX5_use 15 = .ok (.getfield 49, 3) := by decide +kernel
theorem dX5_use_18 : decode cX5_use 18 = .ok (.ifCond .eq 14, 3) := by decide +kernel
theorem dX5_use_21 : decode cX5_use 21 = .ok (.aload_n 0, 1) := by decide +kernel
theorem dX5_use_22 : decode cX5_use 22 = .ok (.getfield 21, 3) := by decide +kernel
theorem dX5_use_25 : decode cX5_use 25 = .ok (.iload_n 1, 1) := by decide +kernel
theorem dX5_use_26 : decode cX5_use 26 = .ok (.invokevirtual 164, 3) := by decide +kernel
theorem dX5_use_29 : decode cX5_use 29 = .ok (.goto 5, 3) := by decide +kernel
theorem dX5_use_32 : decode cX5_use 32 = .ok (.bipush (-4), 2) := by decide +kernel
theorem dX5_use_34 : decode cX5_use 34 = .ok (.ireturn, 1) := by decide +kernel
theorem dX5_octet_0 : decode cX5_octet 0 = .ok (.aload_n 0, 1) := by decide +kernel
theorem dX5_octet_1 : decode cX5_octet 1 = .ok (.getfield 14, 3) := by decide +kernel
theorem dX5_octet_4 : decode cX5_octet 4 = .ok (.iload_n 1, 1) := by decide +kernel
theorem dX5_octet_5 : decode cX5_octet 5 = .ok (.iload_n 2, 1) := by decide +kernel
theorem dX5_octet_6 : decode cX5_octet 6 = .ok (.invokevirtual 161, 3) := by decide +kernel
theorem dX5_octet_9 : decode cX5_octet 9 = .ok (.ifCond .eq 15, 3) := by decide +kernel
theorem dX5_octet_12 : decode cX5_octet 12 = .ok (.aload_n 0, 1) := by decide +kernel
theorem dX5_octet_13 : decode cX5_octet 13 = .ok (.getfield 14, 3) := by decide +kernel
theorem dX5_octet_16 : decode cX5_octet 16 = .ok (.iload_n 1, 1) := by decide +kernel
theorem dX5_octet_17 : decode cX5_octet 17 = .ok (.iload_n 2, 1) := by decide +kernel
theorem dX5_octet_18 : decode cX5_octet 18 = .ok (.invokevirtual 167, 3) := by decide +kernel
theorem dX5_octet_21 : decode cX5_octet 21 = .ok (.goto 4, 3) := by decide +kernel
theorem dX5_octet_24 : decode cX5_octet 24 = .ok (.iconst (-1), 1) := by decide +kernel
theorem dX5_octet_25 : decode cX5_octet 25 = .ok (.ireturn, 1) := by decide +kernel
theorem dX5_poke_0 : decode cX5_poke 0 = .ok (.aload_n 0, 1) := by decide +kernel
theorem dX5_poke_1 : decode cX5_poke 1 = .ok (.getfield 14, 3) := by decide +kernel
theorem dX5_poke_4 : decode cX5_poke 4 = .ok (.iload_n 1, 1) := by decide +kernel
theorem dX5_poke_5 : decode cX5_poke 5 = .ok (.iload_n 2, 1) := by decide +kernel
theorem dX5_poke_6 : decode cX5_poke 6 = .ok (.invokevirtual 161, 3) := by decide +kernel
theorem dX5_poke_9 : decode cX5_poke 9 = .ok (.ifCond .eq 15, 3) := by decide +kernel
theorem dX5_poke_12 : decode cX5_poke 12 = .ok (.iload_n 3, 1) := by decide +kernel
theorem dX5_poke_13 : decode cX5_poke 13 = .ok (.iconst 1, 1) := by decide +kernel
theorem dX5_poke_14 : decode cX5_poke 14 = .ok (.if_icmp .lt 10, 3) := by decide +kernel
theorem dX5_poke_17 : decode cX5_poke 17 = .ok (.iload_n 3, 1) := by decide +kernel
theorem dX5_poke_18 : decode cX5_poke 18 = .ok (.sipush 255, 3) := by decide +kernel
theorem dX5_poke_21 : decode cX5_poke 21 = .ok (.if_icmp .le 5, 3) := by decide +kernel
theorem dX5_poke_24 : decode cX5_poke 24 = .ok (.iconst (-1), 1) := by decide +kernel
theorem dX5_poke_25 : decode cX5_poke 25 = .ok (.ireturn, 1) := by decide +kernel
theorem dX5_poke_26 : decode cX5_poke 26 = .ok (.aload_n 0, 1) := by decide +kernel
theorem dX5_poke_27 : decode cX5_poke 27 = .ok (.getfield 14, 3) := by decide +kernel
theorem dX5_poke_30 : decode cX5_poke 30 = .ok (.iload_n 1, 1) := by decide +kernel
theorem dX5_poke_31 : decode cX5_poke 31 = .ok (.iload_n 2, 1) := by decide +kernel
theorem dX5_poke_32 : decode cX5_poke 32 = .ok (.aload_n 0, 1) := by decide +kernel
theorem dX5_poke_33 : decode cX5_poke 33 = .ok (.getfield 14, 3) := by decide +kernel
theorem dX5_poke_36 : decode cX5_poke 36 = .ok (.iload_n 1, 1) := by decide +kernel
theorem dX5_poke_37 : decode cX5_poke 37 = .ok (.iload_n 2, 1) := by decide +kernel
theorem dX5_poke_38 : decode cX5_poke 38 = .ok (.invokevirtual 167, 3) := by decide +kernel
theorem dX5_poke_41 : decode cX5_poke 41 = .ok (.iload_n 3, 1) := by decide +kernel
theorem dX5_poke_42 : decode cX5_poke 42 = .ok (.ixor, 1) := by decide +kernel
theorem dX5_poke_43 : decode cX5_poke 43 = .ok (.invokevirtual 169, 3) := by decide +kernel
theorem dX5_poke_46 : decode cX5_poke 46 = .ok (.aload_n 0, 1) := by decide +kernel
theorem dX5_poke_47 : decode cX5_poke 47 = .ok (.getfield 14, 3) := by decide +kernel
theorem dX5_poke_50 : decode cX5_poke 50 = .ok (.iload_n 1, 1) := by decide +kernel
theorem dX5_poke_51 : decode cX5_poke 51 = .ok (.iload_n 2, 1) := by decide +kernel
theorem dX5_poke_52 : decode cX5_poke 52 = .ok (.invokevirtual 167, 3) := by decide +kernel
theorem dX5_poke_55 : decode cX5_poke 55 = .ok (.ireturn, 1) := by decide +kernel
theorem dX5_bad_0 : decode cX5_bad 0 = .ok (.aload_n 0, 1) := by decide +kernel
theorem dX5_bad_1 : decode cX5_bad 1 = .ok (.getfield 49, 3) := by decide +kernel
theorem dX5_bad_4 : decode cX5_bad 4 = .ok (.ifCond .ne 6, 3) := by decide +kernel
theorem dX5_bad_7 : decode cX5_bad 7 = .ok (.bipush (-4), 2) := by decide +kernel
theorem dX5_bad_9 : decode cX5_bad 9 = .ok (.ireturn, 1) := by decide +kernel
theorem dX5_bad_10 : decode cX5_bad 10 = .ok (.iconst 0, 1) := by decide +kernel
theorem dX5_bad_11 : decode cX5_bad 11 = .ok (.istore_n 1, 1) := by decide +kernel
theorem dX5_bad_12 : decode cX5_bad 12 = .ok (.iload_n 1, 1) := by decide +kernel
theorem dX5_bad_13 : decode cX5_bad 13 = .ok (.aload_n 0, 1) := by decide +kernel
theorem dX5_bad_14 : decode cX5_bad 14 = .ok (.getfield 14, 3) := by decide +kernel
theorem dX5_bad_17 : decode cX5_bad 17 = .ok (.getfield 173, 3) := by decide +kernel
theorem dX5_bad_20 : decode cX5_bad 20 = .ok (.if_icmp .ge 30, 3) := by decide +kernel
theorem dX5_bad_23 : decode cX5_bad 23 = .ok (.aload_n 0, 1) := by decide +kernel
theorem dX5_bad_24 : decode cX5_bad 24 = .ok (.iload_n 1, 1) := by decide +kernel
theorem dX5_bad_25 : decode cX5_bad 25 = .ok (.invokevirtual 174, 3) := by decide +kernel
theorem dX5_bad_28 : decode cX5_bad 28 = .ok (.ifCond .eq 16, 3) := by decide +kernel
theorem dX5_bad_31 : decode cX5_bad 31 = .ok (.aload_n 0, 1) := by decide +kernel
theorem dX5_bad_32 : decode cX5_bad 32 = .ok (.getfield 14, 3) := by decide +kernel
theorem dX5_bad_35 : decode cX5_bad 35 = .ok (.iload_n 1, 1) := by decide +kernel
theorem dX5_bad_36 : decode cX5_bad 36 = .ok (.invokevirtual 177, 3) := by decide +kernel
theorem dX5_bad_39 : decode cX5_bad 39 = .ok (.ifCond .ne 5, 3) := by decide +kernel
theorem dX5_bad_42 : decode cX5_bad 42 = .ok (.iload_n 1, 1) := by decide +kernel
theorem dX5_bad_43 : decode cX5_bad 43 = .ok (.ireturn, 1) := by decide +kernel
theorem dX5_bad_44 : decode cX5_bad 44 = .ok (.iinc 1 1, 3) := by decide +kernel
theorem dX5_bad_47 : decode cX5_bad 47 = .ok (.goto (-35), 3) := by decide +kernel
theorem dX5_bad_50 : decode cX5_bad 50 = .ok (.bipush (-2), 2) := by decide +kernel
theorem dX5_bad_52 : decode cX5_bad 52 = .ok (.ireturn, 1) := by decide +kernel
theorem dX5_queued_0 : decode cX5_queued 0 = .ok (.aload_n 0, 1) := by decide +kernel
theorem dX5_queued_1 : decode cX5_queued 1 = .ok (.getfield 49, 3) := by decide +kernel
theorem dX5_queued_4 : decode cX5_queued 4 = .ok (.ifCond .eq 14, 3) := by decide +kernel
theorem dX5_queued_7 : decode cX5_queued 7 = .ok (.aload_n 0, 1) := by decide +kernel
theorem dX5_queued_8 : decode cX5_queued 8 = .ok (.getfield 28, 3) := by decide +kernel
theorem dX5_queued_11 : decode cX5_queued 11 = .ok (.iload_n 1, 1) := by decide +kernel
theorem dX5_queued_12 : decode cX5_queued 12 = .ok (.invokevirtual 180, 3) := by decide +kernel
theorem dX5_queued_15 : decode cX5_queued 15 = .ok (.goto 5, 3) := by decide +kernel
theorem dX5_queued_18 : decode cX5_queued 18 = .ok (.bipush (-4), 2) := by decide +kernel
theorem dX5_queued_20 : decode cX5_queued 20 = .ok (.ireturn, 1) := by decide +kernel
theorem dX5_count_0 : decode cX5_count 0 = .ok (.iload_n 1, 1) := by decide +kernel
theorem dX5_count_1 : decode cX5_count 1 = .ok (.ifCond .lt 9, 3) := by decide +kernel
theorem dX5_count_4 : decode cX5_count 4 = .ok (.iload_n 1, 1) := by decide +kernel
theorem dX5_count_5 : decode cX5_count 5 = .ok (.bipush 10, 2) := by decide +kernel
theorem dX5_count_7 : decode cX5_count 7 = .ok (.if_icmp .le 5, 3) := by decide +kernel
theorem dX5_count_10 : decode cX5_count 10 = .ok (.iconst (-1), 1) := by decide +kernel
theorem dX5_count_11 : decode cX5_count 11 = .ok (.ireturn, 1) := by decide +kernel
theorem dX5_count_12 : decode cX5_count 12 = .ok (.iload_n 1, 1) := by decide +kernel
theorem dX5_count_13 : decode cX5_count 13 = .ok (.ifCond .ne 11, 3) := by decide +kernel
theorem dX5_count_16 : decode cX5_count 16 = .ok (.aload_n 0, 1) := by decide +kernel
theorem dX5_count_17 : decode cX5_count 17 = .ok (.getfield 14, 3) := by decide +kernel
theorem dX5_count_20 : decode cX5_count 20 = .ok (.getfield 173, 3) := by decide +kernel
theorem dX5_count_23 : decode cX5_count 23 = .ok (.ireturn, 1) := by decide +kernel
theorem dX5_count_24 : decode cX5_count 24 = .ok (.aload_n 0, 1) := by decide +kernel
theorem dX5_count_25 : decode cX5_count 25 = .ok (.getfield 49, 3) := by decide +kernel
theorem dX5_count_28 : decode cX5_count 28 = .ok (.ifCond .eq 11, 3) := by decide +kernel
theorem dX5_count_31 : decode cX5_count 31 = .ok (.aload_n 0, 1) := by decide +kernel
theorem dX5_count_32 : decode cX5_count 32 = .ok (.iload_n 1, 1) := by decide +kernel
theorem dX5_count_33 : decode cX5_count 33 = .ok (.invokevirtual 183, 3) := by decide +kernel
theorem dX5_count_36 : decode cX5_count 36 = .ok (.goto 4, 3) := by decide +kernel
theorem dX5_count_39 : decode cX5_count 39 = .ok (.iconst 0, 1) := by decide +kernel
theorem dX5_count_40 : decode cX5_count 40 = .ok (.ireturn, 1) := by decide +kernel
theorem dX5_countOpen_0 : decode cX5_countOpen 0 = .ok (.iload_n 1, 1) := by decide +kernel
theorem dX5_countOpen_1 : decode cX5_countOpen 1 = .ok (.tableswitch 113 1 9 #[51, 60, 68, 76, 81, 90, 98, 106, 111], 51) := by decide +kernel
theorem dX5_countOpen_52 : decode cX5_countOpen 52 = .ok (.aload_n 0, 1) := by decide +kernel
theorem dX5_countOpen_53 : decode cX5_countOpen 53 = .ok (.getfield 21, 3) := by decide +kernel
theorem dX5_countOpen_56 : decode cX5_countOpen 56 = .ok (.iconst 0, 1) := by decide +kernel
theorem dX5_countOpen_57 : decode cX5_countOpen 57 = .ok (.invokevirtual 186, 3) := by decide +kernel
theorem dX5_countOpen_60 : decode cX5_countOpen 60 = .ok (.ireturn, 1) := by decide +kernel
theorem dX5_countOpen_61 : decode cX5_countOpen 61 = .ok (.aload_n 0, 1) := by decide +kernel
theorem dX5_countOpen_62 : decode cX5_countOpen 62 = .ok (.getfield 42, 3) := by decide +kernel
theorem dX5_countOpen_65 : decode cX5_countOpen 65 = .ok (.getfield 91, 3) := by decide +kernel
theorem dX5_countOpen_68 : decode cX5_countOpen 68 = .ok (.ireturn, 1) := by decide +kernel
theorem dX5_countOpen_69 : decode cX5_countOpen 69 = .ok (.aload_n 0, 1) := by decide +kernel
theorem dX5_countOpen_70 : decode cX5_countOpen 70 = .ok (.getfield 35, 3) := by decide +kernel
theorem dX5_countOpen_73 : decode cX5_countOpen 73 = .ok (.getfield 94, 3) := by decide +kernel
theorem dX5_countOpen_76 : decode cX5_countOpen 76 = .ok (.ireturn, 1) := by decide +kernel
theorem dX5_countOpen_77 : decode cX5_countOpen 77 = .ok (.aload_n 0, 1) := by decide +kernel
theorem dX5_countOpen_78 : decode cX5_countOpen 78 = .ok (.getfield 66, 3) := by decide +kernel
theorem dX5_countOpen_81 : decode cX5_countOpen 81 = .ok (.ireturn, 1) := by decide +kernel
theorem dX5_countOpen_82 : decode cX5_countOpen 82 = .ok (.aload_n 0, 1) := by decide +kernel
theorem dX5_countOpen_83 : decode cX5_countOpen 83 = .ok (.getfield 21, 3) := by decide +kernel
theorem dX5_countOpen_86 : decode cX5_countOpen 86 = .ok (.iconst 1, 1) := by decide +kernel
theorem dX5_countOpen_87 : decode cX5_countOpen 87 = .ok (.invokevirtual 186, 3) := by decide +kernel
theorem dX5_countOpen_90 : decode cX5_countOpen 90 = .ok (.ireturn, 1) := by decide +kernel
theorem dX5_countOpen_91 : decode cX5_countOpen 91 = .ok (.aload_n 0, 1) := by decide +kernel
theorem dX5_countOpen_92 : decode cX5_countOpen 92 = .ok (.getfield 28, 3) := by decide +kernel
theorem dX5_countOpen_95 : decode cX5_countOpen 95 = .ok (.getfield 189, 3) := by decide +kernel
theorem dX5_countOpen_98 : decode cX5_countOpen 98 = .ok (.ireturn, 1) := by decide +kernel
theorem dX5_countOpen_99 : decode cX5_countOpen 99 = .ok (.aload_n 0, 1) := by decide +kernel
theorem dX5_countOpen_100 : decode cX5_countOpen 100 = .ok (.getfield 42, 3) := by decide +kernel
theorem dX5_countOpen_103 : decode cX5_countOpen 103 = .ok (.getfield 118, 3) := by decide +kernel
theorem dX5_countOpen_106 : decode cX5_countOpen 106 = .ok (.ireturn, 1) := by decide +kernel
theorem dX5_countOpen_107 : decode cX5_countOpen 107 = .ok (.aload_n 0, 1) := by decide +kernel
theorem dX5_countOpen_108 : decode cX5_countOpen 108 = .ok (.getfield 53, 3) := by decide +kernel
theorem dX5_countOpen_111 : decode cX5_countOpen 111 = .ok (.ireturn, 1) := by decide +kernel
theorem dX5_countOpen_112 : decode cX5_countOpen 112 = .ok (.iconst 1, 1) := by decide +kernel
theorem dX5_countOpen_113 : decode cX5_countOpen 113 = .ok (.ireturn, 1) := by decide +kernel
theorem dX5_countOpen_114 : decode cX5_countOpen 114 = .ok (.aload_n 0, 1) := by decide +kernel
theorem dX5_countOpen_115 : decode cX5_countOpen 115 = .ok (.getfield 190, 3) := by decide +kernel
theorem dX5_countOpen_118 : decode cX5_countOpen 118 = .ok (.ireturn, 1) := by decide +kernel
theorem dX5_forget_0 : decode cX5_forget 0 = .ok (.aload_n 0, 1) := by decide +kernel
theorem dX5_forget_1 : decode cX5_forget 1 = .ok (.getfield 21, 3) := by decide +kernel
theorem dX5_forget_4 : decode cX5_forget 4 = .ok (.aload_n 0, 1) := by decide +kernel
theorem dX5_forget_5 : decode cX5_forget 5 = .ok (.getfield 14, 3) := by decide +kernel
theorem dX5_forget_8 : decode cX5_forget 8 = .ok (.getfield 173, 3) := by decide +kernel
theorem dX5_forget_11 : decode cX5_forget 11 = .ok (.invokevirtual 193, 3) := by decide +kernel
theorem dX5_forget_14 : decode cX5_forget 14 = .ok (.aload_n 0, 1) := by decide +kernel
theorem dX5_forget_15 : decode cX5_forget 15 = .ok (.getfield 28, 3) := by decide +kernel
theorem dX5_forget_18 : decode cX5_forget 18 = .ok (.invokevirtual 195, 3) := by decide +kernel
theorem dX5_forget_21 : decode cX5_forget 21 = .ok (.aload_n 0, 1) := by decide +kernel
theorem dX5_forget_22 : decode cX5_forget 22 = .ok (.getfield 35, 3) := by decide +kernel
theorem dX5_forget_25 : decode cX5_forget 25 = .ok (.invokevirtual 196, 3) := by decide +kernel
theorem dX5_forget_28 : decode cX5_forget 28 = .ok (.aload_n 0, 1) := by decide +kernel
theorem dX5_forget_29 : decode cX5_forget 29 = .ok (.aload_n 0, 1) := by decide +kernel
theorem dX5_forget_30 : decode cX5_forget 30 = .ok (.getfield 42, 3) := by decide +kernel
theorem dX5_forget_33 : decode cX5_forget 33 = .ok (.getfield 90, 3) := by decide +kernel
theorem dX5_forget_36 : decode cX5_forget 36 = .ok (.putfield 53, 3) := by decide +kernel
theorem dX5_forget_39 : decode cX5_forget 39 = .ok (.aload_n 0, 1) := by decide +kernel
theorem dX5_forget_40 : decode cX5_forget 40 = .ok (.iconst 0, 1) := by decide +kernel
theorem dX5_forget_41 : decode cX5_forget 41 = .ok (.putfield 66, 3) := by decide +kernel
theorem dX5_forget_44 : decode cX5_forget 44 = .ok (.aload_n 0, 1) := by decide +kernel
theorem dX5_forget_45 : decode cX5_forget 45 = .ok (.iconst 0, 1) := by decide +kernel
theorem dX5_forget_46 : decode cX5_forget 46 = .ok (.putfield 80, 3) := by decide +kernel
theorem dX5_forget_49 : decode cX5_forget 49 = .ok (.aload_n 0, 1) := by decide +kernel
theorem dX5_forget_50 : decode cX5_forget 50 = .ok (.iconst 0, 1) := by decide +kernel
theorem dX5_forget_51 : decode cX5_forget 51 = .ok (.putfield 190, 3) := by decide +kernel
theorem dX5_forget_54 : decode cX5_forget 54 = .ok (.return_, 1) := by decide +kernel
theorem dX5_placeOf_0 : decode cX5_placeOf 0 = .ok (.iload_n 1, 1) := by decide +kernel
theorem dX5_placeOf_1 : decode cX5_placeOf 1 = .ok (.ifCond .ne 5, 3) := by decide +kernel
theorem dX5_placeOf_4 : decode cX5_placeOf 4 = .ok (.iconst 0, 1) := by decide +kernel
theorem dX5_placeOf_5 : decode cX5_placeOf 5 = .ok (.ireturn, 1) := by decide +kernel
theorem dX5_placeOf_6 : decode cX5_placeOf 6 = .ok (.iload_n 1, 1) := by decide +kernel
theorem dX5_placeOf_7 : decode cX5_placeOf 7 = .ok (.aload_n 0, 1) := by decide +kernel
theorem dX5_placeOf_8 : decode cX5_placeOf 8 = .ok (.getfield 53, 3) := by decide +kernel
theorem dX5_placeOf_11 : decode cX5_placeOf 11 = .ok (.aload_n 0, 1) := by decide +kernel
theorem dX5_placeOf_12 : decode cX5_placeOf 12 = .ok (.getfield 66, 3) := by decide +kernel
theorem dX5_placeOf_15 : decode cX5_placeOf 15 = .ok (.isub, 1) := by decide +kernel
theorem dX5_placeOf_16 : decode cX5_placeOf 16 = .ok (.if_icmp .ge 7, 3) := by decide +kernel
theorem dX5_placeOf_19 : decode cX5_placeOf 19 = .ok (.iconst 1, 1) := by decide +kernel
theorem dX5_placeOf_20 : decode cX5_placeOf 20 = .ok (.goto 4, 3) := by decide +kernel
theorem dX5_placeOf_23 : decode cX5_placeOf 23 = .ok (.iconst 2, 1) := by decide +kernel
theorem dX5_placeOf_24 : decode cX5_placeOf 24 = .ok (.ireturn, 1) := by decide +kernel
theorem dX5_shouldBeWhole_0 : decode cX5_shouldBeWhole 0 = .ok (.aload_n 0, 1) := by decide +kernel
theorem dX5_shouldBeWhole_1 : decode cX5_shouldBeWhole 1 = .ok (.getfield 21, 3) := by decide +kernel
theorem dX5_shouldBeWhole_4 : decode cX5_shouldBeWhole 4 = .ok (.iload_n 1, 1) := by decide +kernel
theorem dX5_shouldBeWhole_5 : decode cX5_shouldBeWhole 5 = .ok (.invokevirtual 164, 3) := by decide +kernel
theorem dX5_shouldBeWhole_8 : decode cX5_shouldBeWhole 8 = .ok (.tableswitch 76 1 3 #[28, 45, 47], 28) := by decide +kernel
theorem dX5_shouldBeWhole_36 : decode cX5_shouldBeWhole 36 = .ok (.aload_n 0, 1) := by decide +kernel
theorem dX5_shouldBeWhole_37 : decode cX5_shouldBeWhole 37 = .ok (.getfield 28, 3) := by decide +kernel
theorem dX5_shouldBeWhole_40 : decode cX5_shouldBeWhole 40 = .ok (.iload_n 1, 1) := by decide +kernel
theorem dX5_shouldBeWhole_41 : decode cX5_shouldBeWhole 41 = .ok (.invokevirtual 197, 3) := by decide +kernel
theorem dX5_shouldBeWhole_44 : decode cX5_shouldBeWhole 44 = .ok (.ifCond .ne 7, 3) := by decide +kernel
theorem dX5_shouldBeWhole_47 : decode cX5_shouldBeWhole 47 = .ok (.iconst 1, 1) := by decide +kernel
theorem dX5_shouldBeWhole_48 : decode cX5_shouldBeWhole 48 = .ok (.goto 4, 3) := by decide +kernel
theorem dX5_shouldBeWhole_51 : decode cX5_shouldBeWhole 51 = .ok (.iconst 0, 1) := by decide +kernel
theorem dX5_shouldBeWhole_52 : decode cX5_shouldBeWhole 52 = .ok (.ireturn, 1) := by decide +kernel
theorem dX5_shouldBeWhole_53 : decode cX5_shouldBeWhole 53 = .ok (.iconst 1, 1) := by decide +kernel
theorem dX5_shouldBeWhole_54 : decode cX5_shouldBeWhole 54 = .ok (.ireturn, 1) := by decide +kernel
theorem dX5_shouldBeWhole_55 : decode cX5_shouldBeWhole 55 = .ok (.aload_n 0, 1) := by decide +kernel
theorem dX5_shouldBeWhole_56 : decode cX5_shouldBeWhole 56 = .ok (.getfield 42, 3) := by decide +kernel
theorem dX5_shouldBeWhole_59 : decode cX5_shouldBeWhole 59 = .ok (.getfield 118, 3) := by decide +kernel
theorem dX5_shouldBeWhole_62 : decode cX5_shouldBeWhole 62 = .ok (.ifCond .le 20, 3) := by decide +kernel
theorem dX5_shouldBeWhole_65 : decode cX5_shouldBeWhole 65 = .ok (.aload_n 0, 1) := by decide +kernel
theorem dX5_shouldBeWhole_66 : decode cX5_shouldBeWhole 66 = .ok (.getfield 42, 3) := by decide +kernel
theorem dX5_shouldBeWhole_69 : decode cX5_shouldBeWhole 69 = .ok (.getfield 118, 3) := by decide +kernel
theorem dX5_shouldBeWhole_72 : decode cX5_shouldBeWhole 72 = .ok (.iconst 2, 1) := by decide +kernel
theorem dX5_shouldBeWhole_73 : decode cX5_shouldBeWhole 73 = .ok (.irem, 1) := by decide +kernel
theorem dX5_shouldBeWhole_74 : decode cX5_shouldBeWhole 74 = .ok (.iload_n 1, 1) := by decide +kernel
theorem dX5_shouldBeWhole_75 : decode cX5_shouldBeWhole 75 = .ok (.if_icmp .ne 7, 3) := by decide +kernel
theorem dX5_shouldBeWhole_78 : decode cX5_shouldBeWhole 78 = .ok (.iconst 1, 1) := by decide +kernel
theorem dX5_shouldBeWhole_79 : decode cX5_shouldBeWhole 79 = .ok (.goto 4, 3) := by decide +kernel
theorem dX5_shouldBeWhole_82 : decode cX5_shouldBeWhole 82 = .ok (.iconst 0, 1) := by decide +kernel
theorem dX5_shouldBeWhole_83 : decode cX5_shouldBeWhole 83 = .ok (.ireturn, 1) := by decide +kernel
theorem dX5_shouldBeWhole_84 : decode cX5_shouldBeWhole 84 = .ok (.iconst 0, 1) := by decide +kernel
theorem dX5_shouldBeWhole_85 : decode cX5_shouldBeWhole 85 = .ok (.ireturn, 1) := by decide +kernel
theorem dX5_blocksFor_0 : decode cX5_blocksFor 0 = .ok (.iload_n 0, 1) := by decide +kernel
theorem dX5_blocksFor_1 : decode cX5_blocksFor 1 = .ok (.iconst 3, 1) := by decide +kernel
theorem dX5_blocksFor_2 : decode cX5_blocksFor 2 = .ok (.iadd, 1) := by decide +kernel
theorem dX5_blocksFor_3 : decode cX5_blocksFor 3 = .ok (.iconst 1, 1) := by decide +kernel
theorem dX5_blocksFor_4 : decode cX5_blocksFor 4 = .ok (.isub, 1) := by decide +kernel
theorem dX5_blocksFor_5 : decode cX5_blocksFor 5 = .ok (.iconst 3, 1) := by decide +kernel
theorem dX5_blocksFor_6 : decode cX5_blocksFor 6 = .ok (.idiv, 1) := by decide +kernel
theorem dX5_blocksFor_7 : decode cX5_blocksFor 7 = .ok (.ireturn, 1) := by decide +kernel
theorem dX5_recordsAt_0 : decode cX5_recordsAt 0 = .ok (.iconst 3, 1) := by decide +kernel
theorem dX5_recordsAt_1 : decode cX5_recordsAt 1 = .ok (.iload_n 1, 1) := by decide +kernel
theorem dX5_recordsAt_2 : decode cX5_recordsAt 2 = .ok (.iload_n 0, 1) := by decide +kernel
theorem dX5_recordsAt_3 : decode cX5_recordsAt 3 = .ok (.iconst 3, 1) := by decide +kernel
theorem dX5_recordsAt_4 : decode cX5_recordsAt 4 = .ok (.imul, 1) := by decide +kernel
theorem dX5_recordsAt_5 : decode cX5_recordsAt 5 = .ok (.isub, 1) := by decide +kernel
theorem dX5_recordsAt_6 : decode cX5_recordsAt 6 = .ok (.invokestatic 200, 3) := by decide +kernel
theorem dX5_recordsAt_9 : decode cX5_recordsAt 9 = .ok (.ireturn, 1) := by decide +kernel
theorem dX5_queueLog_0 : decode cX5_queueLog 0 = .ok (.aload_n 0, 1) := by decide +kernel
theorem dX5_queueLog_1 : decode cX5_queueLog 1 = .ok (.getfield 53, 3) := by decide +kernel
theorem dX5_queueLog_4 : decode cX5_queueLog 4 = .ok (.aload_n 0, 1) := by decide +kernel
theorem dX5_queueLog_5 : decode cX5_queueLog 5 = .ok (.getfield 66, 3) := by decide +kernel
theorem dX5_queueLog_8 : decode cX5_queueLog 8 = .ok (.isub, 1) := by decide +kernel
theorem dX5_queueLog_9 : decode cX5_queueLog 9 = .ok (.istore_n 2, 1) := by decide +kernel
theorem dX5_queueLog_10 : decode cX5_queueLog 10 = .ok (.aload_n 0, 1) := by decide +kernel
theorem dX5_queueLog_11 : decode cX5_queueLog 11 = .ok (.getfield 28, 3) := by decide +kernel
theorem dX5_queueLog_14 : decode cX5_queueLog 14 = .ok (.iload_n 1, 1) := by decide +kernel
theorem dX5_queueLog_15 : decode cX5_queueLog 15 = .ok (.iconst 1, 1) := by decide +kernel
theorem dX5_queueLog_16 : decode cX5_queueLog 16 = .ok (.aload_n 0, 1) := by decide +kernel
theorem dX5_queueLog_17 : decode cX5_queueLog 17 = .ok (.getfield 66, 3) := by decide +kernel
theorem dX5_queueLog_20 : decode cX5_queueLog 20 = .ok (.invokevirtual 205, 3) := by decide +kernel
theorem dX5_queueLog_23 : decode cX5_queueLog 23 = .ok (.istore_n 3, 1) := by decide +kernel
theorem dX5_queueLog_24 : decode cX5_queueLog 24 = .ok (.aload_n 0, 1) := by decide +kernel
theorem dX5_queueLog_25 : decode cX5_queueLog 25 = .ok (.getfield 28, 3) := by decide +kernel
theorem dX5_queueLog_28 : decode cX5_queueLog 28 = .ok (.getfield 209, 3) := by decide +kernel
theorem dX5_queueLog_31 : decode cX5_queueLog 31 = .ok (.iload_n 3, 1) := by decide +kernel
theorem dX5_queueLog_32 : decode cX5_queueLog 32 = .ok (.iconst 2, 1) := by decide +kernel
theorem dX5_queueLog_33 : decode cX5_queueLog 33 = .ok (.bipush 6, 2) := by decide +kernel
theorem dX5_queueLog_35 : decode cX5_queueLog 35 = .ok (.iload_n 2, 1) := by decide +kernel
theorem dX5_queueLog_36 : decode cX5_queueLog 36 = .ok (.i2l, 1) := by decide +kernel
theorem dX5_queueLog_37 : decode cX5_queueLog 37 = .ok (.invokevirtual 212, 3) := by decide +kernel
theorem dX5_queueLog_40 : decode cX5_queueLog 40 = .ok (.iconst 0, 1) := by decide +kernel
theorem dX5_queueLog_41 : decode cX5_queueLog 41 = .ok (.istore 4, 2) := by decide +kernel
theorem dX5_queueLog_43 : decode cX5_queueLog 43 = .ok (.iload 4, 2) := by decide +kernel
theorem dX5_queueLog_45 : decode cX5_queueLog 45 = .ok (.aload_n 0, 1) := by decide +kernel
theorem dX5_queueLog_46 : decode cX5_queueLog 46 = .ok (.getfield 66, 3) := by decide +kernel
theorem dX5_queueLog_49 : decode cX5_queueLog 49 = .ok (.if_icmp .ge 27, 3) := by decide +kernel
theorem dX5_queueLog_52 : decode cX5_queueLog 52 = .ok (.aload_n 0, 1) := by decide +kernel
theorem dX5_queueLog_53 : decode cX5_queueLog 53 = .ok (.iload_n 3, 1) := by decide +kernel
theorem dX5_queueLog_54 : decode cX5_queueLog 54 = .ok (.iload 4, 2) := by decide +kernel
theorem dX5_queueLog_56 : decode cX5_queueLog 56 = .ok (.aload_n 0, 1) := by decide +kernel
theorem dX5_queueLog_57 : decode cX5_queueLog 57 = .ok (.getfield 35, 3) := by decide +kernel
theorem dX5_queueLog_60 : decode cX5_queueLog 60 = .ok (.iload_n 2, 1) := by decide +kernel
theorem dX5_queueLog_61 : decode cX5_queueLog 61 = .ok (.iload 4, 2) := by decide +kernel
theorem dX5_queueLog_63 : decode cX5_queueLog 63 = .ok (.iadd, 1) := by decide +kernel
theorem dX5_queueLog_64 : decode cX5_queueLog 64 = .ok (.invokevirtual 216, 3) := by decide +kernel
theorem dX5_queueLog_67 : decode cX5_queueLog 67 = .ok (.invokevirtual 219, 3) := by decide +kernel
theorem dX5_queueLog_70 : decode cX5_queueLog 70 = .ok (.iinc 4 1, 3) := by decide +kernel
theorem dX5_queueLog_73 : decode cX5_queueLog 73 = .ok (.goto (-30), 3) := by decide +kernel
theorem dX5_queueLog_76 : decode cX5_queueLog 76 = .ok (.aload_n 0, 1) := by decide +kernel
theorem dX5_queueLog_77 : decode cX5_queueLog 77 = .ok (.getfield 28, 3) := by decide +kernel
theorem dX5_queueLog_80 : decode cX5_queueLog 80 = .ok (.iload_n 3, 1) := by decide +kernel
theorem dX5_queueLog_81 : decode cX5_queueLog 81 = .ok (.invokevirtual 222, 3) := by decide +kernel
theorem dX5_queueLog_84 : decode cX5_queueLog 84 = .ok (.aload_n 0, 1) := by decide +kernel
theorem dX5_queueLog_85 : decode cX5_queueLog 85 = .ok (.getfield 21, 3) := by decide +kernel
theorem dX5_queueLog_88 : decode cX5_queueLog 88 = .ok (.iload_n 1, 1) := by decide +kernel
theorem dX5_queueLog_89 : decode cX5_queueLog 89 = .ok (.iconst 1, 1) := by decide +kernel
theorem dX5_queueLog_90 : decode cX5_queueLog 90 = .ok (.iconst 1, 1) := by decide +kernel
theorem dX5_queueLog_91 : decode cX5_queueLog 91 = .ok (.invokevirtual 225, 3) := by decide +kernel
theorem dX5_queueLog_94 : decode cX5_queueLog 94 = .ok (.aload_n 0, 1) := by decide +kernel
theorem dX5_queueLog_95 : decode cX5_queueLog 95 = .ok (.iconst 0, 1) := by decide +kernel
theorem dX5_queueLog_96 : decode cX5_queueLog 96 = .ok (.putfield 66, 3) := by decide +kernel
theorem dX5_queueLog_99 : decode cX5_queueLog 99 = .ok (.return_, 1) := by decide +kernel
theorem dX5_queueRecord_0 : decode cX5_queueRecord 0 = .ok (.bipush 8, 2) := by decide +kernel
theorem dX5_queueRecord_2 : decode cX5_queueRecord 2 = .ok (.iload_n 2, 1) := by decide +kernel
theorem dX5_queueRecord_3 : decode cX5_queueRecord 3 = .ok (.bipush 16, 2) := by decide +kernel
theorem dX5_queueRecord_5 : decode cX5_queueRecord 5 = .ok (.imul, 1) := by decide +kernel
theorem dX5_queueRecord_6 : decode cX5_queueRecord 6 = .ok (.iadd, 1) := by decide +kernel
theorem dX5_queueRecord_7 : decode cX5_queueRecord 7 = .ok (.istore 4, 2) := by decide +kernel
theorem dX5_queueRecord_9 : decode cX5_queueRecord 9 = .ok (.aload_n 0, 1) := by decide +kernel
theorem dX5_queueRecord_10 : decode cX5_queueRecord 10 = .ok (.getfield 28, 3) := by decide +kernel
theorem dX5_queueRecord_13 : decode cX5_queueRecord 13 = .ok (.getfield 209, 3) := by decide +kernel
theorem dX5_queueRecord_16 : decode cX5_queueRecord 16 = .ok (.iload_n 1, 1) := by decide +kernel
theorem dX5_queueRecord_17 : decode cX5_queueRecord 17 = .ok (.iload 4, 2) := by decide +kernel
theorem dX5_queueRecord_19 : decode cX5_queueRecord 19 = .ok (.bipush 8, 2) := by decide +kernel
theorem dX5_queueRecord_21 : decode cX5_queueRecord 21 = .ok (.aload_n 0, 1) := by decide +kernel
theorem dX5_queueRecord_22 : decode cX5_queueRecord 22 = .ok (.getfield 35, 3) := by decide +kernel
theorem dX5_queueRecord_25 : decode cX5_queueRecord 25 = .ok (.iload_n 3, 1) := by decide +kernel
theorem dX5_queueRecord_26 : decode cX5_queueRecord 26 = .ok (.invokevirtual 148, 3) := by decide +kernel
theorem dX5_queueRecord_29 : decode cX5_queueRecord 29 = .ok (.invokevirtual 212, 3) := by decide +kernel
theorem dX5_queueRecord_32 : decode cX5_queueRecord 32 = .ok (.aload_n 0, 1) := by decide +kernel
theorem dX5_queueRecord_33 : decode cX5_queueRecord 33 = .ok (.getfield 28, 3) := by decide +kernel
theorem dX5_queueRecord_36 : decode cX5_queueRecord 36 = .ok (.getfield 209, 3) := by decide +kernel
theorem dX5_queueRecord_39 : decode cX5_queueRecord 39 = .ok (.iload_n 1, 1) := by decide +kernel
theorem dX5_queueRecord_40 : decode cX5_queueRecord 40 = .ok (.iload 4, 2) := by decide +kernel
theorem dX5_queueRecord_42 : decode cX5_queueRecord 42 = .ok (.bipush 8, 2) := by decide +kernel
theorem dX5_queueRecord_44 : decode cX5_queueRecord 44 = .ok (.iadd, 1) := by decide +kernel
theorem dX5_queueRecord_45 : decode cX5_queueRecord 45 = .ok (.bipush 8, 2) := by decide +kernel
theorem dX5_queueRecord_47 : decode cX5_queueRecord 47 = .ok (.aload_n 0, 1) := by decide +kernel
theorem dX5_queueRecord_48 : decode cX5_queueRecord 48 = .ok (.getfield 35, 3) := by decide +kernel
theorem dX5_queueRecord_51 : decode cX5_queueRecord 51 = .ok (.iload_n 3, 1) := by decide +kernel
theorem dX5_queueRecord_52 : decode cX5_queueRecord 52 = .ok (.invokevirtual 140, 3) := by decide +kernel
theorem dX5_queueRecord_55 : decode cX5_queueRecord 55 = .ok (.invokevirtual 212, 3) := by decide +kernel
theorem dX5_queueRecord_58 : decode cX5_queueRecord 58 = .ok (.return_, 1) := by decide +kernel
theorem dX5_planHead_0 : decode cX5_planHead 0 = .ok (.aload_n 0, 1) := by decide +kernel
theorem dX5_planHead_1 : decode cX5_planHead 1 = .ok (.getfield 46, 3) := by decide +kernel
theorem dX5_planHead_4 : decode cX5_planHead 4 = .ok (.invokevirtual 60, 3) := by decide +kernel
theorem dX5_planHead_7 : decode cX5_planHead 7 = .ok (.iload_n 1, 1) := by decide +kernel
theorem dX5_planHead_8 : decode cX5_planHead 8 = .ok (.ifCond .ne 14, 3) := by decide +kernel
theorem dX5_planHead_11 : decode cX5_planHead 11 = .ok (.aload_n 0, 1) := by decide +kernel
theorem dX5_planHead_12 : decode cX5_planHead 12 = .ok (.getfield 46, 3) := by decide +kernel
theorem dX5_planHead_15 : decode cX5_planHead 15 = .ok (.aload_n 0, 1) := by decide +kernel
theorem dX5_planHead_16 : decode cX5_planHead 16 = .ok (.getfield 42, 3) := by decide +kernel
theorem dX5_planHead_19 : decode cX5_planHead 19 = .ok (.invokevirtual 228, 3) := by decide +kernel
theorem dX5_planHead_22 : decode cX5_planHead 22 = .ok (.aload_n 0, 1) := by decide +kernel
theorem dX5_planHead_23 : decode cX5_planHead 23 = .ok (.getfield 46, 3) := by decide +kernel
theorem dX5_planHead_26 : decode cX5_planHead 26 = .ok (.aload_n 0, 1) := by decide +kernel
theorem dX5_planHead_27 : decode cX5_planHead 27 = .ok (.getfield 190, 3) := by decide +kernel
theorem dX5_planHead_30 : decode cX5_planHead 30 = .ok (.iconst 1, 1) := by decide +kernel
theorem dX5_planHead_31 : decode cX5_planHead 31 = .ok (.iadd, 1) := by decide +kernel
theorem dX5_planHead_32 : decode cX5_planHead 32 = .ok (.iload_n 2, 1) := by decide +kernel
theorem dX5_planHead_33 : decode cX5_planHead 33 = .ok (.iload_n 3, 1) := by decide +kernel
theorem dX5_planHead_34 : decode cX5_planHead 34 = .ok (.iload 4, 2) := by decide +kernel
theorem dX5_planHead_36 : decode cX5_planHead 36 = .ok (.invokevirtual 232, 3) := by decide +kernel
theorem dX5_planHead_39 : decode cX5_planHead 39 = .ok (.aload_n 0, 1) := by decide +kernel
theorem dX5_planHead_40 : decode cX5_planHead 40 = .ok (.getfield 46, 3) := by decide +kernel
theorem dX5_planHead_43 : decode cX5_planHead 43 = .ok (.aload_n 0, 1) := by decide +kernel
theorem dX5_planHead_44 : decode cX5_planHead 44 = .ok (.getfield 42, 3) := by decide +kernel
theorem dX5_planHead_47 : decode cX5_planHead 47 = .ok (.getfield 118, 3) := by decide +kernel
theorem dX5_planHead_50 : decode cX5_planHead 50 = .ok (.iconst 1, 1) := by decide +kernel
theorem dX5_planHead_51 : decode cX5_planHead 51 = .ok (.iadd, 1) := by decide +kernel
theorem dX5_planHead_52 : decode cX5_planHead 52 = .ok (.putfield 118, 3) := by decide +kernel
theorem dX5_planHead_55 : decode cX5_planHead 55 = .ok (.aload_n 0, 1) := by decide +kernel
theorem dX5_planHead_56 : decode cX5_planHead 56 = .ok (.getfield 46, 3) := by decide +kernel
theorem dX5_planHead_59 : decode cX5_planHead 59 = .ok (.aload_n 0, 1) := by decide +kernel
theorem dX5_planHead_60 : decode cX5_planHead 60 = .ok (.getfield 53, 3) := by decide +kernel
theorem dX5_planHead_63 : decode cX5_planHead 63 = .ok (.putfield 90, 3) := by decide +kernel
theorem dX5_planHead_66 : decode cX5_planHead 66 = .ok (.return_, 1) := by decide +kernel
theorem dX5_queueFile_0 : decode cX5_queueFile 0 = .ok (.aload_n 0, 1) := by decide +kernel
theorem dX5_queueFile_1 : decode cX5_queueFile 1 = .ok (.getfield 46, 3) := by decide +kernel
theorem dX5_queueFile_4 : decode cX5_queueFile 4 = .ok (.getfield 91, 3) := by decide +kernel
theorem dX5_queueFile_7 : decode cX5_queueFile 7 = .ok (.iconst 1, 1) := by decide +kernel
theorem dX5_queueFile_8 : decode cX5_queueFile 8 = .ok (.isub, 1) := by decide +kernel
theorem dX5_queueFile_9 : decode cX5_queueFile 9 = .ok (.istore_n 2, 1) := by decide +kernel
theorem dX5_queueFile_10 : decode cX5_queueFile 10 = .ok (.aload_n 0, 1) := by decide +kernel
theorem dX5_queueFile_11 : decode cX5_queueFile 11 = .ok (.getfield 46, 3) := by decide +kernel
theorem dX5_queueFile_14 : decode cX5_queueFile 14 = .ok (.iload_n 2, 1) := by decide +kernel
theorem dX5_queueFile_15 : decode cX5_queueFile 15 = .ok (.iconst 2, 1) := by decide +kernel
theorem dX5_queueFile_16 : decode cX5_queueFile 16 = .ok (.invokevirtual 157, 3) := by decide +kernel
theorem dX5_queueFile_19 : decode cX5_queueFile 19 = .ok (.istore_n 3, 1) := by decide +kernel
theorem dX5_queueFile_20 : decode cX5_queueFile 20 = .ok (.aload_n 0, 1) := by decide +kernel
theorem dX5_queueFile_21 : decode cX5_queueFile 21 = .ok (.getfield 28, 3) := by decide +kernel
theorem dX5_queueFile_24 : decode cX5_queueFile 24 = .ok (.getfield 189, 3) := by decide +kernel
theorem dX5_queueFile_27 : decode cX5_queueFile 27 = .ok (.istore 4, 2) := by decide +kernel
theorem dX5_queueFile_29 : decode cX5_queueFile 29 = .ok (.iconst 0, 1) := by decide +kernel
theorem dX5_queueFile_30 : decode cX5_queueFile 30 = .ok (.istore 5, 2) := by decide +kernel
theorem dX5_queueFile_32 : decode cX5_queueFile 32 = .ok (.iload 5, 2) := by decide +kernel
theorem dX5_queueFile_34 : decode cX5_queueFile 34 = .ok (.iload_n 3, 1) := by decide +kernel
theorem dX5_queueFile_35 : decode cX5_queueFile 35 = .ok (.if_icmp .ge 107, 3) := by decide +kernel
theorem dX5_queueFile_38 : decode cX5_queueFile 38 = .ok (.iload 5, 2) := by decide +kernel
theorem dX5_queueFile_40 : decode cX5_queueFile 40 = .ok (.aload_n 0, 1) := by decide +kernel
theorem dX5_queueFile_41 : decode cX5_queueFile 41 = .ok (.getfield 46, 3) := by decide +kernel
theorem dX5_queueFile_44 : decode cX5_queueFile 44 = .ok (.iload_n 2, 1) := by decide +kernel
theorem dX5_queueFile_45 : decode cX5_queueFile 45 = .ok (.iconst 3, 1) := by decide +kernel
theorem dX5_queueFile_46 : decode cX5_queueFile 46 = .ok (.invokevirtual 157, 3) := by decide +kernel
theorem dX5_queueFile_49 : decode cX5_queueFile 49 = .ok (.invokestatic 235, 3) := by decide +kernel
theorem dX5_queueFile_52 : decode cX5_queueFile 52 = .ok (.istore 6, 2) := by decide +kernel
theorem dX5_queueFile_54 : decode cX5_queueFile 54 = .ok (.aload_n 0, 1) := by decide +kernel
theorem dX5_queueFile_55 : decode cX5_queueFile 55 = .ok (.getfield 28, 3) := by decide +kernel
theorem dX5_queueFile_58 : decode cX5_queueFile 58 = .ok (.aload_n 0, 1) := by decide +kernel
theorem dX5_queueFile_59 : decode cX5_queueFile 59 = .ok (.getfield 46, 3) := by decide +kernel
theorem dX5_queueFile_62 : decode cX5_queueFile 62 = .ok (.iload_n 2, 1) := by decide +kernel
theorem dX5_queueFile_63 : decode cX5_queueFile 63 = .ok (.iconst 1, 1) := by decide +kernel
theorem dX5_queueFile_64 : decode cX5_queueFile 64 = .ok (.invokevirtual 157, 3) := by decide +kernel
theorem dX5_queueFile_67 : decode cX5_queueFile 67 = .ok (.iload 5, 2) := by decide +kernel
theorem dX5_queueFile_69 : decode cX5_queueFile 69 = .ok (.iadd, 1) := by decide +kernel
theorem dX5_queueFile_70 : decode cX5_queueFile 70 = .ok (.iconst 2, 1) := by decide +kernel
theorem dX5_queueFile_71 : decode cX5_queueFile 71 = .ok (.iload 6, 2) := by decide +kernel
theorem dX5_queueFile_73 : decode cX5_queueFile 73 = .ok (.invokevirtual 205, 3) := by decide +kernel
theorem dX5_queueFile_76 : decode cX5_queueFile 76 = .ok (.istore 7, 2) := by decide +kernel
theorem dX5_queueFile_78 : decode cX5_queueFile 78 = .ok (.aload_n 0, 1) := by decide +kernel
theorem dX5_queueFile_79 : decode cX5_queueFile 79 = .ok (.getfield 28, 3) := by decide +kernel
theorem dX5_queueFile_82 : decode cX5_queueFile 82 = .ok (.getfield 209, 3) := by decide +kernel
theorem dX5_queueFile_85 : decode cX5_queueFile 85 = .ok (.iload 7, 2) := by decide +kernel
theorem dX5_queueFile_87 : decode cX5_queueFile 87 = .ok (.iconst 2, 1) := by decide +kernel
theorem dX5_queueFile_88 : decode cX5_queueFile 88 = .ok (.iconst 2, 1) := by decide +kernel
theorem dX5_queueFile_89 : decode cX5_queueFile 89 = .ok (.aload_n 0, 1) := by decide +kernel
theorem dX5_queueFile_90 : decode cX5_queueFile 90 = .ok (.getfield 46, 3) := by decide +kernel
theorem dX5_queueFile_93 : decode cX5_queueFile 93 = .ok (.iload_n 2, 1) := by decide +kernel
theorem dX5_queueFile_94 : decode cX5_queueFile 94 = .ok (.iconst 0, 1) := by decide +kernel
theorem dX5_queueFile_95 : decode cX5_queueFile 95 = .ok (.invokevirtual 157, 3) := by decide +kernel
theorem dX5_queueFile_98 : decode cX5_queueFile 98 = .ok (.i2l, 1) := by decide +kernel
theorem dX5_queueFile_99 : decode cX5_queueFile 99 = .ok (.invokevirtual 212, 3) := by decide +kernel
theorem dX5_queueFile_102 : decode cX5_queueFile 102 = .ok (.aload_n 0, 1) := by decide +kernel
theorem dX5_queueFile_103 : decode cX5_queueFile 103 = .ok (.getfield 28, 3) := by decide +kernel
theorem dX5_queueFile_106 : decode cX5_queueFile 106 = .ok (.getfield 209, 3) := by decide +kernel
theorem dX5_queueFile_109 : decode cX5_queueFile 109 = .ok (.iload 7, 2) := by decide +kernel
theorem dX5_queueFile_111 : decode cX5_queueFile 111 = .ok (.iconst 4, 1) := by decide +kernel
theorem dX5_queueFile_112 : decode cX5_queueFile 112 = .ok (.iconst 2, 1) := by decide +kernel
theorem dX5_queueFile_113 : decode cX5_queueFile 113 = .ok (.iload 5, 2) := by decide +kernel
theorem dX5_queueFile_115 : decode cX5_queueFile 115 = .ok (.i2l, 1) := by decide +kernel
theorem dX5_queueFile_116 : decode cX5_queueFile 116 = .ok (.invokevirtual 212, 3) := by decide +kernel
theorem dX5_queueFile_119 : decode cX5_queueFile 119 = .ok (.aload_n 0, 1) := by decide +kernel
theorem dX5_queueFile_120 : decode cX5_queueFile 120 = .ok (.getfield 28, 3) := by decide +kernel
theorem dX5_queueFile_123 : decode cX5_queueFile 123 = .ok (.getfield 209, 3) := by decide +kernel
theorem dX5_queueFile_126 : decode cX5_queueFile 126 = .ok (.iload 7, 2) := by decide +kernel
theorem dX5_queueFile_128 : decode cX5_queueFile 128 = .ok (.bipush 6, 2) := by decide +kernel
theorem dX5_queueFile_130 : decode cX5_queueFile 130 = .ok (.iconst 2, 1) := by decide +kernel
theorem dX5_queueFile_131 : decode cX5_queueFile 131 = .ok (.iload_n 3, 1) := by decide +kernel
theorem dX5_queueFile_132 : decode cX5_queueFile 132 = .ok (.i2l, 1) := by decide +kernel
theorem dX5_queueFile_133 : decode cX5_queueFile 133 = .ok (.invokevirtual 212, 3) := by decide +kernel
theorem dX5_queueFile_136 : decode cX5_queueFile 136 = .ok (.iinc 5 1, 3) := by decide +kernel
theorem dX5_queueFile_139 : decode cX5_queueFile 139 = .ok (.goto (-107), 3) := by decide +kernel
theorem dX5_queueFile_142 : decode cX5_queueFile 142 = .ok (.iconst 0, 1) := by decide +kernel
theorem dX5_queueFile_143 : decode cX5_queueFile 143 = .ok (.istore 5, 2) := by decide +kernel
theorem dX5_queueFile_145 : decode cX5_queueFile 145 = .ok (.iconst 0, 1) := by decide +kernel
theorem dX5_queueFile_146 : decode cX5_queueFile 146 = .ok (.istore 6, 2) := by decide +kernel
theorem dX5_queueFile_148 : decode cX5_queueFile 148 = .ok (.iload 6, 2) := by decide +kernel
theorem dX5_queueFile_150 : decode cX5_queueFile 150 = .ok (.aload_n 0, 1) := by decide +kernel
theorem dX5_queueFile_151 : decode cX5_queueFile 151 = .ok (.getfield 35, 3) := by decide +kernel
theorem dX5_queueFile_154 : decode cX5_queueFile 154 = .ok (.getfield 94, 3) := by decide +kernel
theorem dX5_queueFile_157 : decode cX5_queueFile 157 = .ok (.if_icmp .ge 45, 3) := by decide +kernel
theorem dX5_queueFile_160 : decode cX5_queueFile 160 = .ok (.iload_n 1, 1) := by decide +kernel
theorem dX5_queueFile_161 : decode cX5_queueFile 161 = .ok (.ifCond .ne 15, 3) := by decide +kernel
theorem dX5_queueFile_164 : decode cX5_queueFile 164 = .ok (.aload_n 0, 1) := by decide +kernel
theorem dX5_queueFile_165 : decode cX5_queueFile 165 = .ok (.getfield 35, 3) := by decide +kernel
theorem dX5_queueFile_168 : decode cX5_queueFile 168 = .ok (.iload 6, 2) := by decide +kernel
theorem dX5_queueFile_170 : decode cX5_queueFile 170 = .ok (.invokevirtual 151, 3) := by decide +kernel
theorem dX5_queueFile_173 : decode cX5_queueFile 173 = .ok (.ifCond .eq 23, 3) := by decide +kernel
theorem dX5_queueFile_176 : decode cX5_queueFile 176 = .ok (.aload_n 0, 1) := by decide +kernel
theorem dX5_queueFile_177 : decode cX5_queueFile 177 = .ok (.iload 4, 2) := by decide +kernel
theorem dX5_queueFile_179 : decode cX5_queueFile 179 = .ok (.iload 5, 2) := by decide +kernel
theorem dX5_queueFile_181 : decode cX5_queueFile 181 = .ok (.iconst 3, 1) := by decide +kernel
theorem dX5_queueFile_182 : decode cX5_queueFile 182 = .ok (.idiv, 1) := by decide +kernel
theorem dX5_queueFile_183 : decode cX5_queueFile 183 = .ok (.iadd, 1) := by decide +kernel
theorem dX5_queueFile_184 : decode cX5_queueFile 184 = .ok (.iload 5, 2) := by decide +kernel
theorem dX5_queueFile_186 : decode cX5_queueFile 186 = .ok (.iconst 3, 1) := by decide +kernel
theorem dX5_queueFile_187 : decode cX5_queueFile 187 = .ok (.irem, 1) := by decide +kernel
theorem dX5_queueFile_188 : decode cX5_queueFile 188 = .ok (.iload 6, 2) := by decide +kernel
theorem dX5_queueFile_190 : decode cX5_queueFile 190 = .ok (.invokevirtual 219, 3) := by decide +kernel
theorem dX5_queueFile_193 : decode cX5_queueFile 193 = .ok (.iinc 5 1, 3) := by decide +kernel
theorem dX5_queueFile_196 : decode cX5_queueFile 196 = .ok (.iinc 6 1, 3) := by decide +kernel
theorem dX5_queueFile_199 : decode cX5_queueFile 199 = .ok (.goto (-51), 3) := by decide +kernel
theorem dX5_queueFile_202 : decode cX5_queueFile 202 = .ok (.iconst 0, 1) := by decide +kernel
theorem dX5_queueFile_203 : decode cX5_queueFile 203 = .ok (.istore 6, 2) := by decide +kernel
theorem dX5_queueFile_205 : decode cX5_queueFile 205 = .ok (.iload 6, 2) := by decide +kernel
theorem dX5_queueFile_207 : decode cX5_queueFile 207 = .ok (.iload_n 3, 1) := by decide +kernel
theorem dX5_queueFile_208 : decode cX5_queueFile 208 = .ok (.if_icmp .ge 21, 3) := by decide +kernel
theorem dX5_queueFile_211 : decode cX5_queueFile 211 = .ok (.aload_n 0, 1) := by decide +kernel
theorem dX5_queueFile_212 : decode cX5_queueFile 212 = .ok (.getfield 28, 3) := by decide +kernel
theorem dX5_queueFile_215 : decode cX5_queueFile 215 = .ok (.iload 4, 2) := by decide +kernel
theorem dX5_queueFile_217 : decode cX5_queueFile 217 = .ok (.iload 6, 2) := by decide +kernel
theorem dX5_queueFile_219 : decode cX5_queueFile 219 = .ok (.iadd, 1) := by decide +kernel
theorem dX5_queueFile_220 : decode cX5_queueFile 220 = .ok (.invokevirtual 222, 3) := by decide +kernel
theorem dX5_queueFile_223 : decode cX5_queueFile 223 = .ok (.iinc 6 1, 3) := by decide +kernel
theorem dX5_queueFile_226 : decode cX5_queueFile 226 = .ok (.goto (-21), 3) := by decide +kernel
theorem dX5_queueFile_229 : decode cX5_queueFile 229 = .ok (.return_, 1) := by decide +kernel
theorem dX5_queueHead_0 : decode cX5_queueHead 0 = .ok (.aload_n 0, 1) := by decide +kernel
theorem dX5_queueHead_1 : decode cX5_queueHead 1 = .ok (.getfield 28, 3) := by decide +kernel
theorem dX5_queueHead_4 : decode cX5_queueHead 4 = .ok (.aload_n 0, 1) := by decide +kernel
theorem dX5_queueHead_5 : decode cX5_queueHead 5 = .ok (.getfield 46, 3) := by decide +kernel
theorem dX5_queueHead_8 : decode cX5_queueHead 8 = .ok (.getfield 118, 3) := by decide +kernel
theorem dX5_queueHead_11 : decode cX5_queueHead 11 = .ok (.iconst 2, 1) := by decide +kernel
theorem dX5_queueHead_12 : decode cX5_queueHead 12 = .ok (.irem, 1) := by decide +kernel
theorem dX5_queueHead_13 : decode cX5_queueHead 13 = .ok (.iconst 3, 1) := by decide +kernel
theorem dX5_queueHead_14 : decode cX5_queueHead 14 = .ok (.aload_n 0, 1) := by decide +kernel
theorem dX5_queueHead_15 : decode cX5_queueHead 15 = .ok (.getfield 46, 3) := by decide +kernel
theorem dX5_queueHead_18 : decode cX5_queueHead 18 = .ok (.getfield 91, 3) := by decide +kernel
theorem dX5_queueHead_21 : decode cX5_queueHead 21 = .ok (.invokevirtual 205, 3) := by decide +kernel
theorem dX5_queueHead_24 : decode cX5_queueHead 24 = .ok (.istore_n 1, 1) := by decide +kernel
theorem dX5_queueHead_25 : decode cX5_queueHead 25 = .ok (.aload_n 0, 1) := by decide +kernel
theorem dX5_queueHead_26 : decode cX5_queueHead 26 = .ok (.getfield 28, 3) := by decide +kernel
theorem dX5_queueHead_29 : decode cX5_queueHead 29 = .ok (.getfield 209, 3) := by decide +kernel
theorem dX5_queueHead_32 : decode cX5_queueHead 32 = .ok (.iload_n 1, 1) := by decide +kernel
theorem dX5_queueHead_33 : decode cX5_queueHead 33 = .ok (.iconst 2, 1) := by decide +kernel
theorem dX5_queueHead_34 : decode cX5_queueHead 34 = .ok (.bipush 6, 2) := by decide +kernel
theorem dX5_queueHead_36 : decode cX5_queueHead 36 = .ok (.aload_n 0, 1) := by decide +kernel
theorem dX5_queueHead_37 : decode cX5_queueHead 37 = .ok (.getfield 46, 3) := by decide +kernel
theorem dX5_queueHead_40 : decode cX5_queueHead 40 = .ok (.getfield 118, 3) := by decide +kernel
theorem dX5_queueHead_43 : decode cX5_queueHead 43 = .ok (.i2l, 1) := by decide +kernel
theorem dX5_queueHead_44 : decode cX5_queueHead 44 = .ok (.invokevirtual 212, 3) := by decide +kernel
theorem dX5_queueHead_47 : decode cX5_queueHead 47 = .ok (.iconst 0, 1) := by decide +kernel
theorem dX5_queueHead_48 : decode cX5_queueHead 48 = .ok (.istore_n 2, 1) := by decide +kernel
theorem dX5_queueHead_49 : decode cX5_queueHead 49 = .ok (.iload_n 2, 1) := by decide +kernel
theorem dX5_queueHead_50 : decode cX5_queueHead 50 = .ok (.aload_n 0, 1) := by decide +kernel
theorem dX5_queueHead_51 : decode cX5_queueHead 51 = .ok (.getfield 46, 3) := by decide +kernel
theorem dX5_queueHead_54 : decode cX5_queueHead 54 = .ok (.getfield 91, 3) := by decide +kernel
theorem dX5_queueHead_57 : decode cX5_queueHead 57 = .ok (.if_icmp .ge 49, 3) := by decide +kernel
theorem dX5_queueHead_60 : decode cX5_queueHead 60 = .ok (.iconst 0, 1) := by decide +kernel
theorem dX5_queueHead_61 : decode cX5_queueHead 61 = .ok (.istore_n 3, 1) := by decide +kernel
theorem dX5_queueHead_62 : decode cX5_queueHead 62 = .ok (.iload_n 3, 1) := by decide +kernel
theorem dX5_queueHead_63 : decode cX5_queueHead 63 = .ok (.iconst 4, 1) := by decide +kernel
theorem dX5_queueHead_64 : decode cX5_queueHead 64 = .ok (.if_icmp .ge 36, 3) := by decide +kernel
theorem dX5_queueHead_67 : decode cX5_queueHead 67 = .ok (.aload_n 0, 1) := by decide +kernel
theorem dX5_queueHead_68 : decode cX5_queueHead 68 = .ok (.getfield 28, 3) := by decide +kernel
theorem dX5_queueHead_71 : decode cX5_queueHead 71 = .ok (.getfield 209, 3) := by decide +kernel
theorem dX5_queueHead_74 : decode cX5_queueHead 74 = .ok (.iload_n 1, 1) := by decide +kernel
theorem dX5_queueHead_75 : decode cX5_queueHead 75 = .ok (.iload_n 2, 1) := by decide +kernel
theorem dX5_queueHead_76 : decode cX5_queueHead 76 = .ok (.iload_n 3, 1) := by decide +kernel
theorem dX5_queueHead_77 : decode cX5_queueHead 77 = .ok (.invokestatic 238, 3) := by decide +kernel
theorem dX5_queueHead_80 : decode cX5_queueHead 80 = .ok (.iconst 2, 1) := by decide +kernel
theorem dX5_queueHead_81 : decode cX5_queueHead 81 = .ok (.aload_n 0, 1) := by decide +kernel
theorem dX5_queueHead_82 : decode cX5_queueHead 82 = .ok (.getfield 46, 3) := by decide +kernel
theorem dX5_queueHead_85 : decode cX5_queueHead 85 = .ok (.iload_n 2, 1) := by decide +kernel
theorem dX5_queueHead_86 : decode cX5_queueHead 86 = .ok (.iload_n 3, 1) := by decide +kernel
theorem dX5_queueHead_87 : decode cX5_queueHead 87 = .ok (.invokevirtual 157, 3) := by decide +kernel
theorem dX5_queueHead_90 : decode cX5_queueHead 90 = .ok (.i2l, 1) := by decide +kernel
theorem dX5_queueHead_91 : decode cX5_queueHead 91 = .ok (.invokevirtual 212, 3) := by decide +kernel
theorem dX5_queueHead_94 : decode cX5_queueHead 94 = .ok (.iinc 3 1, 3) := by decide +kernel
theorem dX5_queueHead_97 : decode cX5_queueHead 97 = .ok (.goto (-35), 3) := by decide +kernel
theorem dX5_queueHead_100 : decode cX5_queueHead 100 = .ok (.iinc 2 1, 3) := by decide +kernel
theorem dX5_queueHead_103 : decode cX5_queueHead 103 = .ok (.goto (-54), 3) := by decide +kernel
theorem dX5_queueHead_106 : decode cX5_queueHead 106 = .ok (.aload_n 0, 1) := by decide +kernel
theorem dX5_queueHead_107 : decode cX5_queueHead 107 = .ok (.getfield 28, 3) := by decide +kernel
theorem dX5_queueHead_110 : decode cX5_queueHead 110 = .ok (.getfield 209, 3) := by decide +kernel
theorem dX5_queueHead_113 : decode cX5_queueHead 113 = .ok (.iload_n 1, 1) := by decide +kernel
theorem dX5_queueHead_114 : decode cX5_queueHead 114 = .ok (.bipush 48, 2) := by decide +kernel
theorem dX5_queueHead_116 : decode cX5_queueHead 116 = .ok (.bipush 8, 2) := by decide +kernel
theorem dX5_queueHead_118 : decode cX5_queueHead 118 = .ok (.aload_n 0, 1) := by decide +kernel
theorem dX5_queueHead_119 : decode cX5_queueHead 119 = .ok (.getfield 46, 3) := by decide +kernel
theorem dX5_queueHead_122 : decode cX5_queueHead 122 = .ok (.getfield 90, 3) := by decide +kernel
theorem dX5_queueHead_125 : decode cX5_queueHead 125 = .ok (.i2l, 1) := by decide +kernel
theorem dX5_queueHead_126 : decode cX5_queueHead 126 = .ok (.invokevirtual 212, 3) := by decide +kernel
theorem dX5_queueHead_129 : decode cX5_queueHead 129 = .ok (.aload_n 0, 1) := by decide +kernel
theorem dX5_queueHead_130 : decode cX5_queueHead 130 = .ok (.getfield 28, 3) := by decide +kernel
theorem dX5_queueHead_133 : decode cX5_queueHead 133 = .ok (.iload_n 1, 1) := by decide +kernel
theorem dX5_queueHead_134 : decode cX5_queueHead 134 = .ok (.invokevirtual 222, 3) := by decide +kernel
theorem dX5_queueHead_137 : decode cX5_queueHead 137 = .ok (.return_, 1) := by decide +kernel
theorem dX5_takePlannedHead_0 : decode cX5_takePlannedHead 0 = .ok (.aload_n 0, 1) := by decide +kernel
theorem dX5_takePlannedHead_1 : decode cX5_takePlannedHead 1 = .ok (.invokevirtual 241, 3) := by decide +kernel
theorem dX5_takePlannedHead_4 : decode cX5_takePlannedHead 4 = .ok (.aload_n 0, 1) := by decide +kernel
theorem dX5_takePlannedHead_5 : decode cX5_takePlannedHead 5 = .ok (.getfield 42, 3) := by decide +kernel
theorem dX5_takePlannedHead_8 : decode cX5_takePlannedHead 8 = .ok (.getfield 91, 3) := by decide +kernel
theorem dX5_takePlannedHead_11 : decode cX5_takePlannedHead 11 = .ok (.iconst 1, 1) := by decide +kernel
theorem dX5_takePlannedHead_12 : decode cX5_takePlannedHead 12 = .ok (.isub, 1) := by decide +kernel
theorem dX5_takePlannedHead_13 : decode cX5_takePlannedHead 13 = .ok (.istore_n 2, 1) := by decide +kernel
theorem dX5_takePlannedHead_14 : decode cX5_takePlannedHead 14 = .ok (.aload_n 0, 1) := by decide +kernel
theorem dX5_takePlannedHead_15 : decode cX5_takePlannedHead 15 = .ok (.getfield 21, 3) := by decide +kernel
theorem dX5_takePlannedHead_18 : decode cX5_takePlannedHead 18 = .ok (.iconst 1, 1) := by decide +kernel
theorem dX5_takePlannedHead_19 : decode cX5_takePlannedHead 19 = .ok (.iconst 0, 1) := by decide +kernel
theorem dX5_takePlannedHead_20 : decode cX5_takePlannedHead 20 = .ok (.invokevirtual 244, 3) := by decide +kernel
theorem dX5_takePlannedHead_23 : decode cX5_takePlannedHead 23 = .ok (.iload_n 1, 1) := by decide +kernel
theorem dX5_takePlannedHead_24 : decode cX5_takePlannedHead 24 = .ok (.ifCond .eq 12, 3) := by decide +kernel
theorem dX5_takePlannedHead_27 : decode cX5_takePlannedHead 27 = .ok (.aload_n 0, 1) := by decide +kernel
theorem dX5_takePlannedHead_28 : decode cX5_takePlannedHead 28 = .ok (.getfield 21, 3) := by decide +kernel
theorem dX5_takePlannedHead_31 : decode cX5_takePlannedHead 31 = .ok (.iconst 2, 1) := by decide +kernel
theorem dX5_takePlannedHead_32 : decode cX5_takePlannedHead 32 = .ok (.iconst 0, 1) := by decide +kernel
theorem dX5_takePlannedHead_33 : decode cX5_takePlannedHead 33 = .ok (.invokevirtual 244, 3) := by decide +kernel
theorem dX5_takePlannedHead_36 : decode cX5_takePlannedHead 36 = .ok (.aload_n 0, 1) := by decide +kernel
theorem dX5_takePlannedHead_37 : decode cX5_takePlannedHead 37 = .ok (.getfield 21, 3) := by decide +kernel
theorem dX5_takePlannedHead_40 : decode cX5_takePlannedHead 40 = .ok (.aload_n 0, 1) := by decide +kernel
theorem dX5_takePlannedHead_41 : decode cX5_takePlannedHead 41 = .ok (.getfield 42, 3) := by decide +kernel
theorem dX5_takePlannedHead_44 : decode cX5_takePlannedHead 44 = .ok (.iload_n 2, 1) := by decide +kernel
theorem dX5_takePlannedHead_45 : decode cX5_takePlannedHead 45 = .ok (.iconst 1, 1) := by decide +kernel
theorem dX5_takePlannedHead_46 : decode cX5_takePlannedHead 46 = .ok (.invokevirtual 157, 3) := by decide +kernel
theorem dX5_takePlannedHead_49 : decode cX5_takePlannedHead 49 = .ok (.aload_n 0, 1) := by decide +kernel
theorem dX5_takePlannedHead_50 : decode cX5_takePlannedHead 50 = .ok (.getfield 42, 3) := by decide +kernel
theorem dX5_takePlannedHead_53 : decode cX5_takePlannedHead 53 = .ok (.iload_n 2, 1) := by decide +kernel
theorem dX5_takePlannedHead_54 : decode cX5_takePlannedHead 54 = .ok (.iconst 2, 1) := by decide +kernel
theorem dX5_takePlannedHead_55 : decode cX5_takePlannedHead 55 = .ok (.invokevirtual 157, 3) := by decide +kernel
theorem dX5_takePlannedHead_58 : decode cX5_takePlannedHead 58 = .ok (.iconst 2, 1) := by decide +kernel
theorem dX5_takePlannedHead_59 : decode cX5_takePlannedHead 59 = .ok (.invokevirtual 225, 3) := by decide +kernel
theorem dX5_takePlannedHead_62 : decode cX5_takePlannedHead 62 = .ok (.aload_n 0, 1) := by decide +kernel
theorem dX5_takePlannedHead_63 : decode cX5_takePlannedHead 63 = .ok (.aload_n 0, 1) := by decide +kernel
theorem dX5_takePlannedHead_64 : decode cX5_takePlannedHead 64 = .ok (.getfield 42, 3) := by decide +kernel
theorem dX5_takePlannedHead_67 : decode cX5_takePlannedHead 67 = .ok (.iload_n 2, 1) := by decide +kernel
theorem dX5_takePlannedHead_68 : decode cX5_takePlannedHead 68 = .ok (.iconst 0, 1) := by decide +kernel
theorem dX5_takePlannedHead_69 : decode cX5_takePlannedHead 69 = .ok (.invokevirtual 157, 3) := by decide +kernel
theorem dX5_takePlannedHead_72 : decode cX5_takePlannedHead 72 = .ok (.putfield 190, 3) := by decide +kernel
theorem dX5_takePlannedHead_75 : decode cX5_takePlannedHead 75 = .ok (.aload_n 0, 1) := by decide +kernel
theorem dX5_takePlannedHead_76 : decode cX5_takePlannedHead 76 = .ok (.getfield 35, 3) := by decide +kernel
theorem dX5_takePlannedHead_79 : decode cX5_takePlannedHead 79 = .ok (.invokevirtual 248, 3) := by decide +kernel
theorem dX5_takePlannedHead_82 : decode cX5_takePlannedHead 82 = .ok (.aload_n 0, 1) := by decide +kernel
theorem dX5_takePlannedHead_83 : decode cX5_takePlannedHead 83 = .ok (.iconst 0, 1) := by decide +kernel
theorem dX5_takePlannedHead_84 : decode cX5_takePlannedHead 84 = .ok (.putfield 66, 3) := by decide +kernel
theorem dX5_takePlannedHead_87 : decode cX5_takePlannedHead 87 = .ok (.aload_n 0, 1) := by decide +kernel
theorem dX5_takePlannedHead_88 : decode cX5_takePlannedHead 88 = .ok (.aload_n 0, 1) := by decide +kernel
theorem dX5_takePlannedHead_89 : decode cX5_takePlannedHead 89 = .ok (.getfield 53, 3) := by decide +kernel
theorem dX5_takePlannedHead_92 : decode cX5_takePlannedHead 92 = .ok (.iconst 1, 1) := by decide +kernel
theorem dX5_takePlannedHead_93 : decode cX5_takePlannedHead 93 = .ok (.isub, 1) := by decide +kernel
theorem dX5_takePlannedHead_94 : decode cX5_takePlannedHead 94 = .ok (.putfield 80, 3) := by decide +kernel
theorem dX5_takePlannedHead_97 : decode cX5_takePlannedHead 97 = .ok (.return_, 1) := by decide +kernel
theorem dX5_swapHeads_0 : decode cX5_swapHeads 0 = .ok (.aload_n 0, 1) := by decide +kernel
theorem dX5_swapHeads_1 : decode cX5_swapHeads 1 = .ok (.getfield 42, 3) := by decide +kernel
theorem dX5_swapHeads_4 : decode cX5_swapHeads 4 = .ok (.astore_n 1, 1) := by decide +kernel
theorem dX5_swapHeads_5 : decode cX5_swapHeads 5 = .ok (.aload_n 0, 1) := by decide +kernel
theorem dX5_swapHeads_6 : decode cX5_swapHeads 6 = .ok (.aload_n 0, 1) := by decide +kernel
theorem dX5_swapHeads_7 : decode cX5_swapHeads 7 = .ok (.getfield 46, 3) := by decide +kernel
theorem dX5_swapHeads_10 : decode cX5_swapHeads 10 = .ok (.putfield 42, 3) := by decide +kernel
theorem dX5_swapHeads_13 : decode cX5_swapHeads 13 = .ok (.aload_n 0, 1) := by decide +kernel
theorem dX5_swapHeads_14 : decode cX5_swapHeads 14 = .ok (.aload_n 1, 1) := by decide +kernel
theorem dX5_swapHeads_15 : decode cX5_swapHeads 15 = .ok (.putfield 46, 3) := by decide +kernel
theorem dX5_swapHeads_18 : decode cX5_swapHeads 18 = .ok (.return_, 1) := by decide +kernel
theorem dX5_chooseHead_0 : decode cX5_chooseHead 0 = .ok (.aload_n 0, 1) := by decide +kernel
theorem dX5_chooseHead_1 : decode cX5_chooseHead 1 = .ok (.getfield 42, 3) := by decide +kernel
theorem dX5_chooseHead_4 : decode cX5_chooseHead 4 = .ok (.aload_n 0, 1) := by decide +kernel
theorem dX5_chooseHead_5 : decode cX5_chooseHead 5 = .ok (.getfield 14, 3) := by decide +kernel
theorem dX5_chooseHead_8 : decode cX5_chooseHead 8 = .ok (.iconst 0, 1) := by decide +kernel
theorem dX5_chooseHead_9 : decode cX5_chooseHead 9 = .ok (.invokevirtual 251, 3) := by decide +kernel
theorem dX5_chooseHead_12 : decode cX5_chooseHead 12 = .ok (.aload_n 0, 1) := by decide +kernel
theorem dX5_chooseHead_13 : decode cX5_chooseHead 13 = .ok (.getfield 46, 3) := by decide +kernel
theorem dX5_chooseHead_16 : decode cX5_chooseHead 16 = .ok (.aload_n 0, 1) := by decide +kernel
theorem dX5_chooseHead_17 : decode cX5_chooseHead 17 = .ok (.getfield 14, 3) := by decide +kernel
theorem dX5_chooseHead_20 : decode cX5_chooseHead 20 = .ok (.iconst 1, 1) := by decide +kernel
theorem dX5_chooseHead_21 : decode cX5_chooseHead 21 = .ok (.invokevirtual 251, 3) := by decide +kernel
theorem dX5_chooseHead_24 : decode cX5_chooseHead 24 = .ok (.aload_n 0, 1) := by decide +kernel
theorem dX5_chooseHead_25 : decode cX5_chooseHead 25 = .ok (.getfield 46, 3) := by decide +kernel
theorem dX5_chooseHead_28 : decode cX5_chooseHead 28 = .ok (.getfield 118, 3) := by decide +kernel
theorem dX5_chooseHead_31 : decode cX5_chooseHead 31 = .ok (.aload_n 0, 1) := by decide +kernel
theorem dX5_chooseHead_32 : decode cX5_chooseHead 32 = .ok (.getfield 42, 3) := by decide +kernel
theorem dX5_chooseHead_35 : decode cX5_chooseHead 35 = .ok (.getfield 118, 3) := by decide +kernel
theorem dX5_chooseHead_38 : decode cX5_chooseHead 38 = .ok (.if_icmp .le 7, 3) := by decide +kernel
theorem dX5_chooseHead_41 : decode cX5_chooseHead 41 = .ok (.aload_n 0, 1) := by decide +kernel
theorem dX5_chooseHead_42 : decode cX5_chooseHead 42 = .ok (.invokevirtual 241, 3) := by decide +kernel
theorem dX5_chooseHead_45 : decode cX5_chooseHead 45 = .ok (.return_, 1) := by decide +kernel
theorem dX5_firstWrongBlock_0 : decode cX5_firstWrongBlock 0 = .ok (.iconst 0, 1) := by decide +kernel
theorem dX5_firstWrongBlock_1 : decode cX5_firstWrongBlock 1 = .ok (.istore_n 1, 1) := by decide +kernel
theorem dX5_firstWrongBlock_2 : decode cX5_firstWrongBlock 2 = .ok (.iload_n 1, 1) := by decide +kernel
theorem dX5_firstWrongBlock_3 : decode cX5_firstWrongBlock 3 = .ok (.aload_n 0, 1) := by decide +kernel
theorem dX5_firstWrongBlock_4 : decode cX5_firstWrongBlock 4 = .ok (.getfield 42, 3) := by decide +kernel
theorem dX5_firstWrongBlock_7 : decode cX5_firstWrongBlock 7 = .ok (.getfield 91, 3) := by decide +kernel
theorem dX5_firstWrongBlock_10 : decode cX5_firstWrongBlock 10 = .ok (.if_icmp .ge 51, 3) := by decide +kernel
theorem dX5_firstWrongBlock_13 : decode cX5_firstWrongBlock 13 = .ok (.iconst 0, 1) := by decide +kernel
theorem dX5_firstWrongBlock_14 : decode cX5_firstWrongBlock 14 = .ok (.istore_n 2, 1) := by decide +kernel
theorem dX5_firstWrongBlock_15 : decode cX5_firstWrongBlock 15 = .ok (.iload_n 2, 1) := by decide +kernel
theorem dX5_firstWrongBlock_16 : decode cX5_firstWrongBlock 16 = .ok (.aload_n 0, 1) := by decide +kernel
theorem dX5_firstWrongBlock_17 : decode cX5_firstWrongBlock 17 = .ok (.getfield 42, 3) := by decide +kernel
theorem dX5_firstWrongBlock_20 : decode cX5_firstWrongBlock 20 = .ok (.iload_n 1, 1) := by decide +kernel
theorem dX5_firstWrongBlock_21 : decode cX5_firstWrongBlock 21 = .ok (.iconst 2, 1) := by decide +kernel
theorem dX5_firstWrongBlock_22 : decode cX5_firstWrongBlock 22 = .ok (.invokevirtual 157, 3) := by decide +kernel
theorem dX5_firstWrongBlock_25 : decode cX5_firstWrongBlock 25 = .ok (.if_icmp .ge 30, 3) := by decide +kernel
theorem dX5_firstWrongBlock_28 : decode cX5_firstWrongBlock 28 = .ok (.aload_n 0, 1) := by decide +kernel
theorem dX5_firstWrongBlock_29 : decode cX5_firstWrongBlock 29 = .ok (.iload_n 1, 1) := by decide +kernel
theorem dX5_firstWrongBlock_30 : decode cX5_firstWrongBlock 30 = .ok (.iload_n 2, 1) := by decide +kernel
theorem dX5_firstWrongBlock_31 : decode cX5_firstWrongBlock 31 = .ok (.invokevirtual 255, 3) := by decide +kernel
theorem dX5_firstWrongBlock_34 : decode cX5_firstWrongBlock 34 = .ok (.ifCond .ne 15, 3) := by decide +kernel
theorem dX5_firstWrongBlock_37 : decode cX5_firstWrongBlock 37 = .ok (.aload_n 0, 1) := by decide +kernel
theorem dX5_firstWrongBlock_38 : decode cX5_firstWrongBlock 38 = .ok (.getfield 42, 3) := by decide +kernel
theorem dX5_firstWrongBlock_41 : decode cX5_firstWrongBlock 41 = .ok (.iload_n 1, 1) := by decide +kernel
theorem dX5_firstWrongBlock_42 : decode cX5_firstWrongBlock 42 = .ok (.iconst 1, 1) := by decide +kernel
theorem dX5_firstWrongBlock_43 : decode cX5_firstWrongBlock 43 = .ok (.invokevirtual 157, 3) := by decide +kernel
theorem dX5_firstWrongBlock_46 : decode cX5_firstWrongBlock 46 = .ok (.iload_n 2, 1) := by decide +kernel
theorem dX5_firstWrongBlock_47 : decode cX5_firstWrongBlock 47 = .ok (.iadd, 1) := by decide +kernel
theorem dX5_firstWrongBlock_48 : decode cX5_firstWrongBlock 48 = .ok (.ireturn, 1) := by decide +kernel
theorem dX5_firstWrongBlock_49 : decode cX5_firstWrongBlock 49 = .ok (.iinc 2 1, 3) := by decide +kernel
theorem dX5_firstWrongBlock_52 : decode cX5_firstWrongBlock 52 = .ok (.goto (-37), 3) := by decide +kernel
theorem dX5_firstWrongBlock_55 : decode cX5_firstWrongBlock 55 = .ok (.iinc 1 1, 3) := by decide +kernel
theorem dX5_firstWrongBlock_58 : decode cX5_firstWrongBlock 58 = .ok (.goto (-56), 3) := by decide +kernel
theorem dX5_firstWrongBlock_61 : decode cX5_firstWrongBlock 61 = .ok (.bipush (-2), 2) := by decide +kernel
theorem dX5_firstWrongBlock_63 : decode cX5_firstWrongBlock 63 = .ok (.ireturn, 1) := by decide +kernel
theorem dX5_isFileBlock_0 : decode cX5_isFileBlock 0 = .ok (.aload_n 0, 1) := by decide +kernel
theorem dX5_isFileBlock_1 : decode cX5_isFileBlock 1 = .ok (.getfield 42, 3) := by decide +kernel
theorem dX5_isFileBlock_4 : decode cX5_isFileBlock 4 = .ok (.iload_n 1, 1) := by decide +kernel
theorem dX5_isFileBlock_5 : decode cX5_isFileBlock 5 = .ok (.iconst 1, 1) := by decide +kernel
theorem dX5_isFileBlock_6 : decode cX5_isFileBlock 6 = .ok (.invokevirtual 157, 3) := by decide +kernel
theorem dX5_isFileBlock_9 : decode cX5_isFileBlock 9 = .ok (.iload_n 2, 1) := by decide +kernel
theorem dX5_isFileBlock_10 : decode cX5_isFileBlock 10 = .ok (.iadd, 1) := by decide +kernel
theorem dX5_isFileBlock_11 : decode cX5_isFileBlock 11 = .ok (.istore_n 3, 1) := by decide +kernel
theorem dX5_isFileBlock_12 : decode cX5_isFileBlock 12 = .ok (.aload_n 0, 1) := by decide +kernel
theorem dX5_isFileBlock_13 : decode cX5_isFileBlock 13 = .ok (.getfield 14, 3) := by decide +kernel
theorem dX5_isFileBlock_16 : decode cX5_isFileBlock 16 = .ok (.iload_n 3, 1) := by decide +kernel
theorem dX5_isFileBlock_17 : decode cX5_isFileBlock 17 = .ok (.invokevirtual 177, 3) := by decide +kernel
theorem dX5_isFileBlock_20 : decode cX5_isFileBlock 20 = .ok (.ifCond .eq 110, 3) := by decide +kernel
theorem dX5_isFileBlock_23 : decode cX5_isFileBlock 23 = .ok (.aload_n 0, 1) := by decide +kernel
theorem dX5_isFileBlock_24 : decode cX5_isFileBlock 24 = .ok (.getfield 14, 3) := by decide +kernel
theorem dX5_isFileBlock_27 : decode cX5_isFileBlock 27 = .ok (.iload_n 3, 1) := by decide +kernel
theorem dX5_isFileBlock_28 : decode cX5_isFileBlock 28 = .ok (.iconst 0, 1) := by decide +kernel
theorem dX5_isFileBlock_29 : decode cX5_isFileBlock 29 = .ok (.invokevirtual 167, 3) := by decide +kernel
theorem dX5_isFileBlock_32 : decode cX5_isFileBlock 32 = .ok (.iconst 2, 1) := by decide +kernel
theorem dX5_isFileBlock_33 : decode cX5_isFileBlock 33 = .ok (.if_icmp .ne 97, 3) := by decide +kernel
theorem dX5_isFileBlock_36 : decode cX5_isFileBlock 36 = .ok (.aload_n 0, 1) := by decide +kernel
theorem dX5_isFileBlock_37 : decode cX5_isFileBlock 37 = .ok (.getfield 14, 3) := by decide +kernel
theorem dX5_isFileBlock_40 : decode cX5_isFileBlock 40 = .ok (.iload_n 3, 1) := by decide +kernel
theorem dX5_isFileBlock_41 : decode cX5_isFileBlock 41 = .ok (.iconst 1, 1) := by decide +kernel
theorem dX5_isFileBlock_42 : decode cX5_isFileBlock 42 = .ok (.invokevirtual 167, 3) := by decide +kernel
theorem dX5_isFileBlock_45 : decode cX5_isFileBlock 45 = .ok (.iload_n 2, 1) := by decide +kernel
theorem dX5_isFileBlock_46 : decode cX5_isFileBlock 46 = .ok (.aload_n 0, 1) := by decide +kernel
theorem dX5_isFileBlock_47 : decode cX5_isFileBlock 47 = .ok (.getfield 42, 3) := by decide +kernel
theorem dX5_isFileBlock_50 : decode cX5_isFileBlock 50 = .ok (.iload_n 1, 1) := by decide +kernel
theorem dX5_isFileBlock_51 : decode cX5_isFileBlock 51 = .ok (.iconst 3, 1) := by decide +kernel
theorem dX5_isFileBlock_52 : decode cX5_isFileBlock 52 = .ok (.invokevirtual 157, 3) := by decide +kernel
theorem dX5_isFileBlock_55 : decode cX5_isFileBlock 55 = .ok (.invokestatic 235, 3) := by decide +kernel
theorem dX5_isFileBlock_58 : decode cX5_isFileBlock 58 = .ok (.if_icmp .ne 72, 3) := by decide +kernel
theorem dX5_isFileBlock_61 : decode cX5_isFileBlock 61 = .ok (.aload_n 0, 1) := by decide +kernel
theorem dX5_isFileBlock_62 : decode cX5_isFileBlock 62 = .ok (.getfield 14, 3) := by decide +kernel
theorem dX5_isFileBlock_65 : decode cX5_isFileBlock 65 = .ok (.iload_n 3, 1) := by decide +kernel
theorem dX5_isFileBlock_66 : decode cX5_isFileBlock 66 = .ok (.iconst 2, 1) := by decide +kernel
theorem dX5_isFileBlock_67 : decode cX5_isFileBlock 67 = .ok (.iconst 2, 1) := by decide +kernel
theorem dX5_isFileBlock_68 : decode cX5_isFileBlock 68 = .ok (.invokevirtual 258, 3) := by decide +kernel
theorem dX5_isFileBlock_71 : decode cX5_isFileBlock 71 = .ok (.aload_n 0, 1) := by decide +kernel
theorem dX5_isFileBlock_72 : decode cX5_isFileBlock 72 = .ok (.getfield 42, 3) := by decide +kernel
theorem dX5_isFileBlock_75 : decode cX5_isFileBlock 75 = .ok (.iload_n 1, 1) := by decide +kernel
theorem dX5_isFileBlock_76 : decode cX5_isFileBlock 76 = .ok (.iconst 0, 1) := by decide +kernel
theorem dX5_isFileBlock_77 : decode cX5_isFileBlock 77 = .ok (.invokevirtual 157, 3) := by decide +kernel
theorem dX5_isFileBlock_80 : decode cX5_isFileBlock 80 = .ok (.i2l, 1) := by decide +kernel
theorem dX5_isFileBlock_81 : decode cX5_isFileBlock 81 = .ok (.lcmp, 1) := by decide +kernel
theorem dX5_isFileBlock_82 : decode cX5_isFileBlock 82 = .ok (.ifCond .ne 48, 3) := by decide +kernel
theorem dX5_isFileBlock_85 : decode cX5_isFileBlock 85 = .ok (.aload_n 0, 1) := by decide +kernel
theorem dX5_isFileBlock_86 : decode cX5_isFileBlock 86 = .ok (.getfield 14, 3) := by decide +kernel
theorem dX5_isFileBlock_89 : decode cX5_isFileBlock 89 = .ok (.iload_n 3, 1) := by decide +kernel
theorem dX5_isFileBlock_90 : decode cX5_isFileBlock 90 = .ok (.iconst 4, 1) := by decide +kernel
theorem dX5_isFileBlock_91 : decode cX5_isFileBlock 91 = .ok (.iconst 2, 1) := by decide +kernel
theorem dX5_isFileBlock_92 : decode cX5_isFileBlock 92 = .ok (.invokevirtual 258, 3) := by decide +kernel
theorem dX5_isFileBlock_95 : decode cX5_isFileBlock 95 = .ok (.iload_n 2, 1) := by decide +kernel
theorem dX5_isFileBlock_96 : decode cX5_isFileBlock 96 = .ok (.i2l, 1) := by decide +kernel
theorem dX5_isFileBlock_97 : decode cX5_isFileBlock 97 = .ok (.lcmp, 1) := by decide +kernel
theorem dX5_isFileBlock_98 : decode cX5_isFileBlock 98 = .ok (.ifCond .ne 32, 3) := by decide +kernel
theorem dX5_isFileBlock_101 : decode cX5_isFileBlock 101 = .ok (.aload_n 0, 1) := by decide +kernel
theorem dX5_isFileBlock_102 : decode cX5_isFileBlock 102 = .ok (.getfield 14, 3) := by decide +kernel
theorem dX5_isFileBlock_105 : decode cX5_isFileBlock 105 = .ok (.iload_n 3, 1) := by decide +kernel
theorem dX5_isFileBlock_106 : decode cX5_isFileBlock 106 = .ok (.bipush 6, 2) := by decide +kernel
theorem dX5_isFileBlock_108 : decode cX5_isFileBlock 108 = .ok (.iconst 2, 1) := by decide +kernel
theorem dX5_isFileBlock_109 : decode cX5_isFileBlock 109 = .ok (.invokevirtual 258, 3) := by decide +kernel
theorem dX5_isFileBlock_112 : decode cX5_isFileBlock 112 = .ok (.aload_n 0, 1) := by decide +kernel
theorem dX5_isFileBlock_113 : decode cX5_isFileBlock 113 = .ok (.getfield 42, 3) := by decide +kernel
theorem dX5_isFileBlock_116 : decode cX5_isFileBlock 116 = .ok (.iload_n 1, 1) := by decide +kernel
theorem dX5_isFileBlock_117 : decode cX5_isFileBlock 117 = .ok (.iconst 2, 1) := by decide +kernel
theorem dX5_isFileBlock_118 : decode cX5_isFileBlock 118 = .ok (.invokevirtual 157, 3) := by decide +kernel
theorem dX5_isFileBlock_121 : decode cX5_isFileBlock 121 = .ok (.i2l, 1) := by decide +kernel
theorem dX5_isFileBlock_122 : decode cX5_isFileBlock 122 = .ok (.lcmp, 1) := by decide +kernel
theorem dX5_isFileBlock_123 : decode cX5_isFileBlock 123 = .ok (.ifCond .ne 7, 3) := by decide +kernel
theorem dX5_isFileBlock_126 : decode cX5_isFileBlock 126 = .ok (.iconst 1, 1) := by decide +kernel
theorem dX5_isFileBlock_127 : decode cX5_isFileBlock 127 = .ok (.goto 4, 3) := by decide +kernel
theorem dX5_isFileBlock_130 : decode cX5_isFileBlock 130 = .ok (.iconst 0, 1) := by decide +kernel
theorem dX5_isFileBlock_131 : decode cX5_isFileBlock 131 = .ok (.ireturn, 1) := by decide +kernel
theorem dX5_readFile_0 : decode cX5_readFile 0 = .ok (.aload_n 0, 1) := by decide +kernel
theorem dX5_readFile_1 : decode cX5_readFile 1 = .ok (.getfield 42, 3) := by decide +kernel
theorem dX5_readFile_4 : decode cX5_readFile 4 = .ok (.iload_n 1, 1) := by decide +kernel
theorem dX5_readFile_5 : decode cX5_readFile 5 = .ok (.iconst 1, 1) := by decide +kernel
theorem dX5_readFile_6 : decode cX5_readFile 6 = .ok (.invokevirtual 157, 3) := by decide +kernel
theorem dX5_readFile_9 : decode cX5_readFile 9 = .ok (.istore_n 2, 1) := by decide +kernel
theorem dX5_readFile_10 : decode cX5_readFile 10 = .ok (.aload_n 0, 1) := by decide +kernel
theorem dX5_readFile_11 : decode cX5_readFile 11 = .ok (.getfield 42, 3) := by decide +kernel
theorem dX5_readFile_14 : decode cX5_readFile 14 = .ok (.iload_n 1, 1) := by decide +kernel
theorem dX5_readFile_15 : decode cX5_readFile 15 = .ok (.iconst 2, 1) := by decide +kernel
theorem dX5_readFile_16 : decode cX5_readFile 16 = .ok (.invokevirtual 157, 3) := by decide +kernel
theorem dX5_readFile_19 : decode cX5_readFile 19 = .ok (.istore_n 3, 1) := by decide +kernel
theorem dX5_readFile_20 : decode cX5_readFile 20 = .ok (.iconst 0, 1) := by decide +kernel
theorem dX5_readFile_21 : decode cX5_readFile 21 = .ok (.istore 4, 2) := by decide +kernel
theorem dX5_readFile_23 : decode cX5_readFile 23 = .ok (.iload 4, 2) := by decide +kernel
theorem dX5_readFile_25 : decode cX5_readFile 25 = .ok (.iload_n 3, 1) := by decide +kernel
theorem dX5_readFile_26 : decode cX5_readFile 26 = .ok (.if_icmp .ge 48, 3) := by decide +kernel
theorem dX5_readFile_29 : decode cX5_readFile 29 = .ok (.iconst 0, 1) := by decide +kernel
theorem dX5_readFile_30 : decode cX5_readFile 30 = .ok (.istore 5, 2) := by decide +kernel
theorem dX5_readFile_32 : decode cX5_readFile 32 = .ok (.iload 5, 2) := by decide +kernel
theorem dX5_readFile_34 : decode cX5_readFile 34 = .ok (.iload 4, 2) := by decide +kernel
theorem dX5_readFile_36 : decode cX5_readFile 36 = .ok (.aload_n 0, 1) := by decide +kernel
theorem dX5_readFile_37 : decode cX5_readFile 37 = .ok (.getfield 42, 3) := by decide +kernel
theorem dX5_readFile_40 : decode cX5_readFile 40 = .ok (.iload_n 1, 1) := by decide +kernel
theorem dX5_readFile_41 : decode cX5_readFile 41 = .ok (.iconst 3, 1) := by decide +kernel
theorem dX5_readFile_42 : decode cX5_readFile 42 = .ok (.invokevirtual 157, 3) := by decide +kernel
theorem dX5_readFile_45 : decode cX5_readFile 45 = .ok (.invokestatic 235, 3) := by decide +kernel
theorem dX5_readFile_48 : decode cX5_readFile 48 = .ok (.if_icmp .ge 20, 3) := by decide +kernel
theorem dX5_readFile_51 : decode cX5_readFile 51 = .ok (.aload_n 0, 1) := by decide +kernel
theorem dX5_readFile_52 : decode cX5_readFile 52 = .ok (.iload_n 2, 1) := by decide +kernel
theorem dX5_readFile_53 : decode cX5_readFile 53 = .ok (.iload 4, 2) := by decide +kernel
theorem dX5_readFile_55 : decode cX5_readFile 55 = .ok (.iadd, 1) := by decide +kernel
theorem dX5_readFile_56 : decode cX5_readFile 56 = .ok (.iload 5, 2) := by decide +kernel
theorem dX5_readFile_58 : decode cX5_readFile 58 = .ok (.iconst 0, 1) := by decide +kernel
theorem dX5_readFile_59 : decode cX5_readFile 59 = .ok (.invokevirtual 262, 3) := by decide +kernel
theorem dX5_readFile_62 : decode cX5_readFile 62 = .ok (.iinc 5 1, 3) := by decide +kernel
theorem dX5_readFile_65 : decode cX5_readFile 65 = .ok (.goto (-33), 3) := by decide +kernel
theorem dX5_readFile_68 : decode cX5_readFile 68 = .ok (.iinc 4 1, 3) := by decide +kernel
theorem dX5_readFile_71 : decode cX5_readFile 71 = .ok (.goto (-48), 3) := by decide +kernel
theorem dX5_readFile_74 : decode cX5_readFile 74 = .ok (.aload_n 0, 1) := by decide +kernel
theorem dX5_readFile_75 : decode cX5_readFile 75 = .ok (.getfield 21, 3) := by decide +kernel
theorem dX5_readFile_78 : decode cX5_readFile 78 = .ok (.iload_n 2, 1) := by decide +kernel
theorem dX5_readFile_79 : decode cX5_readFile 79 = .ok (.iload_n 3, 1) := by decide +kernel
theorem dX5_readFile_80 : decode cX5_readFile 80 = .ok (.iconst 2, 1) := by decide +kernel
theorem dX5_readFile_81 : decode cX5_readFile 81 = .ok (.invokevirtual 225, 3) := by decide +kernel
theorem dX5_readFile_84 : decode cX5_readFile 84 = .ok (.aload_n 0, 1) := by decide +kernel
theorem dX5_readFile_85 : decode cX5_readFile 85 = .ok (.aload_n 0, 1) := by decide +kernel
theorem dX5_readFile_86 : decode cX5_readFile 86 = .ok (.getfield 190, 3) := by decide +kernel
theorem dX5_readFile_89 : decode cX5_readFile 89 = .ok (.aload_n 0, 1) := by decide +kernel
theorem dX5_readFile_90 : decode cX5_readFile 90 = .ok (.getfield 42, 3) := by decide +kernel
theorem dX5_readFile_93 : decode cX5_readFile 93 = .ok (.iload_n 1, 1) := by decide +kernel
theorem dX5_readFile_94 : decode cX5_readFile 94 = .ok (.iconst 0, 1) := by decide +kernel
theorem dX5_readFile_95 : decode cX5_readFile 95 = .ok (.invokevirtual 157, 3) := by decide +kernel
theorem dX5_readFile_98 : decode cX5_readFile 98 = .ok (.invokestatic 265, 3) := by decide +kernel
theorem dX5_readFile_101 : decode cX5_readFile 101 = .ok (.putfield 190, 3) := by decide +kernel
theorem dX5_readFile_104 : decode cX5_readFile 104 = .ok (.return_, 1) := by decide +kernel
theorem dX5_readRecord_0 : decode cX5_readRecord 0 = .ok (.bipush 8, 2) := by decide +kernel
theorem dX5_readRecord_2 : decode cX5_readRecord 2 = .ok (.iload_n 2, 1) := by decide +kernel
theorem dX5_readRecord_3 : decode cX5_readRecord 3 = .ok (.bipush 16, 2) := by decide +kernel
theorem dX5_readRecord_5 : decode cX5_readRecord 5 = .ok (.imul, 1) := by decide +kernel
theorem dX5_readRecord_6 : decode cX5_readRecord 6 = .ok (.iadd, 1) := by decide +kernel
theorem dX5_readRecord_7 : decode cX5_readRecord 7 = .ok (.istore 4, 2) := by decide +kernel
theorem dX5_readRecord_9 : decode cX5_readRecord 9 = .ok (.aload_n 0, 1) := by decide +kernel
theorem dX5_readRecord_10 : decode cX5_readRecord 10 = .ok (.getfield 35, 3) := by decide +kernel
theorem dX5_readRecord_13 : decode cX5_readRecord 13 = .ok (.aload_n 0, 1) := by decide +kernel
theorem dX5_readRecord_14 : decode cX5_readRecord 14 = .ok (.getfield 14, 3) := by decide +kernel
theorem dX5_readRecord_17 : decode cX5_readRecord 17 = .ok (.iload_n 1, 1) := by decide +kernel
theorem dX5_readRecord_18 : decode cX5_readRecord 18 = .ok (.iload 4, 2) := by decide +kernel
theorem dX5_readRecord_20 : decode cX5_readRecord 20 = .ok (.bipush 8, 2) := by decide +kernel
theorem dX5_readRecord_22 : decode cX5_readRecord 22 = .ok (.invokevirtual 258, 3) := by decide +kernel
theorem dX5_readRecord_25 : decode cX5_readRecord 25 = .ok (.aload_n 0, 1) := by decide +kernel
theorem dX5_readRecord_26 : decode cX5_readRecord 26 = .ok (.getfield 14, 3) := by decide +kernel
theorem dX5_readRecord_29 : decode cX5_readRecord 29 = .ok (.iload_n 1, 1) := by decide +kernel
theorem dX5_readRecord_30 : decode cX5_readRecord 30 = .ok (.iload 4, 2) := by decide +kernel
theorem dX5_readRecord_32 : decode cX5_readRecord 32 = .ok (.bipush 8, 2) := by decide +kernel
theorem dX5_readRecord_34 : decode cX5_readRecord 34 = .ok (.iadd, 1) := by decide +kernel
theorem dX5_readRecord_35 : decode cX5_readRecord 35 = .ok (.bipush 8, 2) := by decide +kernel
theorem dX5_readRecord_37 : decode cX5_readRecord 37 = .ok (.invokevirtual 258, 3) := by decide +kernel
theorem dX5_readRecord_40 : decode cX5_readRecord 40 = .ok (.iload_n 3, 1) := by decide +kernel
theorem dX5_readRecord_41 : decode cX5_readRecord 41 = .ok (.invokevirtual 73, 3) := by decide +kernel
theorem dX5_readRecord_44 : decode cX5_readRecord 44 = .ok (.return_, 1) := by decide +kernel
theorem dX5_replayLog_0 : decode cX5_replayLog 0 = .ok (.iconst 2, 1) := by decide +kernel
theorem dX5_replayLog_1 : decode cX5_replayLog 1 = .ok (.istore_n 1, 1) := by decide +kernel
theorem dX5_replayLog_2 : decode cX5_replayLog 2 = .ok (.iload_n 1, 1) := by decide +kernel
theorem dX5_replayLog_3 : decode cX5_replayLog 3 = .ok (.aload_n 0, 1) := by decide +kernel
theorem dX5_replayLog_4 : decode cX5_replayLog 4 = .ok (.getfield 14, 3) := by decide +kernel
theorem dX5_replayLog_7 : decode cX5_replayLog 7 = .ok (.getfield 173, 3) := by decide +kernel
theorem dX5_replayLog_10 : decode cX5_replayLog 10 = .ok (.if_icmp .ge 54, 3) := by decide +kernel
theorem dX5_replayLog_13 : decode cX5_replayLog 13 = .ok (.aload_n 0, 1) := by decide +kernel
theorem dX5_replayLog_14 : decode cX5_replayLog 14 = .ok (.getfield 21, 3) := by decide +kernel
theorem dX5_replayLog_17 : decode cX5_replayLog 17 = .ok (.iload_n 1, 1) := by decide +kernel
theorem dX5_replayLog_18 : decode cX5_replayLog 18 = .ok (.invokevirtual 164, 3) := by decide +kernel
theorem dX5_replayLog_21 : decode cX5_replayLog 21 = .ok (.ifCond .ne 37, 3) := by decide +kernel
theorem dX5_replayLog_24 : decode cX5_replayLog 24 = .ok (.aload_n 0, 1) := by decide +kernel
theorem dX5_replayLog_25 : decode cX5_replayLog 25 = .ok (.getfield 14, 3) := by decide +kernel
theorem dX5_replayLog_28 : decode cX5_replayLog 28 = .ok (.iload_n 1, 1) := by decide +kernel
theorem dX5_replayLog_29 : decode cX5_replayLog 29 = .ok (.invokevirtual 177, 3) := by decide +kernel
theorem dX5_replayLog_32 : decode cX5_replayLog 32 = .ok (.ifCond .eq 26, 3) := by decide +kernel
theorem dX5_replayLog_35 : decode cX5_replayLog 35 = .ok (.aload_n 0, 1) := by decide +kernel
theorem dX5_replayLog_36 : decode cX5_replayLog 36 = .ok (.getfield 14, 3) := by decide +kernel
theorem dX5_replayLog_39 : decode cX5_replayLog 39 = .ok (.iload_n 1, 1) := by decide +kernel
theorem dX5_replayLog_40 : decode cX5_replayLog 40 = .ok (.iconst 0, 1) := by decide +kernel
theorem dX5_replayLog_41 : decode cX5_replayLog 41 = .ok (.invokevirtual 167, 3) := by decide +kernel
theorem dX5_replayLog_44 : decode cX5_replayLog 44 = .ok (.iconst 1, 1) := by decide +kernel
theorem dX5_replayLog_45 : decode cX5_replayLog 45 = .ok (.if_icmp .ne 13, 3) := by decide +kernel
theorem dX5_replayLog_48 : decode cX5_replayLog 48 = .ok (.aload_n 0, 1) := by decide +kernel
theorem dX5_replayLog_49 : decode cX5_replayLog 49 = .ok (.getfield 21, 3) := by decide +kernel
theorem dX5_replayLog_52 : decode cX5_replayLog 52 = .ok (.iload_n 1, 1) := by decide +kernel
theorem dX5_replayLog_53 : decode cX5_replayLog 53 = .ok (.iconst 1, 1) := by decide +kernel
theorem dX5_replayLog_54 : decode cX5_replayLog 54 = .ok (.iconst 4, 1) := by decide +kernel
theorem dX5_replayLog_55 : decode cX5_replayLog 55 = .ok (.invokevirtual 225, 3) := by decide +kernel
theorem dX5_replayLog_58 : decode cX5_replayLog 58 = .ok (.iinc 1 1, 3) := by decide +kernel
theorem dX5_replayLog_61 : decode cX5_replayLog 61 = .ok (.goto (-59), 3) := by decide +kernel
theorem dX5_replayLog_64 : decode cX5_replayLog 64 = .ok (.aload_n 0, 1) := by decide +kernel
theorem dX5_replayLog_65 : decode cX5_replayLog 65 = .ok (.invokevirtual 268, 3) := by decide +kernel
theorem dX5_replayLog_68 : decode cX5_replayLog 68 = .ok (.istore_n 1, 1) := by decide +kernel
theorem dX5_replayLog_69 : decode cX5_replayLog 69 = .ok (.iconst 0, 1) := by decide +kernel
theorem dX5_replayLog_70 : decode cX5_replayLog 70 = .ok (.istore_n 2, 1) := by decide +kernel
theorem dX5_replayLog_71 : decode cX5_replayLog 71 = .ok (.iload_n 2, 1) := by decide +kernel
theorem dX5_replayLog_72 : decode cX5_replayLog 72 = .ok (.aload_n 0, 1) := by decide +kernel
theorem dX5_replayLog_73 : decode cX5_replayLog 73 = .ok (.getfield 14, 3) := by decide +kernel
theorem dX5_replayLog_76 : decode cX5_replayLog 76 = .ok (.getfield 173, 3) := by decide +kernel
theorem dX5_replayLog_79 : decode cX5_replayLog 79 = .ok (.if_icmp .ge 25, 3) := by decide +kernel
theorem dX5_replayLog_82 : decode cX5_replayLog 82 = .ok (.iload_n 1, 1) := by decide +kernel
theorem dX5_replayLog_83 : decode cX5_replayLog 83 = .ok (.bipush (-2), 2) := by decide +kernel
theorem dX5_replayLog_85 : decode cX5_replayLog 85 = .ok (.if_icmp .eq 19, 3) := by decide +kernel
theorem dX5_replayLog_88 : decode cX5_replayLog 88 = .ok (.aload_n 0, 1) := by decide +kernel
theorem dX5_replayLog_89 : decode cX5_replayLog 89 = .ok (.iload_n 1, 1) := by decide +kernel
theorem dX5_replayLog_90 : decode cX5_replayLog 90 = .ok (.invokevirtual 271, 3) := by decide +kernel
theorem dX5_replayLog_93 : decode cX5_replayLog 93 = .ok (.aload_n 0, 1) := by decide +kernel
theorem dX5_replayLog_94 : decode cX5_replayLog 94 = .ok (.invokevirtual 268, 3) := by decide +kernel
theorem dX5_replayLog_97 : decode cX5_replayLog 97 = .ok (.istore_n 1, 1) := by decide +kernel
theorem dX5_replayLog_98 : decode cX5_replayLog 98 = .ok (.iinc 2 1, 3) := by decide +kernel
theorem dX5_replayLog_101 : decode cX5_replayLog 101 = .ok (.goto (-30), 3) := by decide +kernel
theorem dX5_replayLog_104 : decode cX5_replayLog 104 = .ok (.aload_n 0, 1) := by decide +kernel
theorem dX5_replayLog_105 : decode cX5_replayLog 105 = .ok (.invokevirtual 274, 3) := by decide +kernel
theorem dX5_replayLog_108 : decode cX5_replayLog 108 = .ok (.return_, 1) := by decide +kernel
theorem dX5_nextLogBlock_0 : decode cX5_nextLogBlock 0 = .ok (.iconst 2, 1) := by decide +kernel
theorem dX5_nextLogBlock_1 : decode cX5_nextLogBlock 1 = .ok (.istore_n 1, 1) := by decide +kernel
theorem dX5_nextLogBlock_2 : decode cX5_nextLogBlock 2 = .ok (.iload_n 1, 1) := by decide +kernel
theorem dX5_nextLogBlock_3 : decode cX5_nextLogBlock 3 = .ok (.aload_n 0, 1) := by decide +kernel
theorem dX5_nextLogBlock_4 : decode cX5_nextLogBlock 4 = .ok (.getfield 14, 3) := by decide +kernel
theorem dX5_nextLogBlock_7 : decode cX5_nextLogBlock 7 = .ok (.getfield 173, 3) := by decide +kernel
theorem dX5_nextLogBlock_10 : decode cX5_nextLogBlock 10 = .ok (.if_icmp .ge 63, 3) := by decide +kernel
theorem dX5_nextLogBlock_13 : decode cX5_nextLogBlock 13 = .ok (.aload_n 0, 1) := by decide +kernel
theorem dX5_nextLogBlock_14 : decode cX5_nextLogBlock 14 = .ok (.getfield 14, 3) := by decide +kernel
theorem dX5_nextLogBlock_17 : decode cX5_nextLogBlock 17 = .ok (.iload_n 1, 1) := by decide +kernel
theorem dX5_nextLogBlock_18 : decode cX5_nextLogBlock 18 = .ok (.iconst 1, 1) := by decide +kernel
theorem dX5_nextLogBlock_19 : decode cX5_nextLogBlock 19 = .ok (.invokevirtual 167, 3) := by decide +kernel
theorem dX5_nextLogBlock_22 : decode cX5_nextLogBlock 22 = .ok (.istore_n 2, 1) := by decide +kernel
theorem dX5_nextLogBlock_23 : decode cX5_nextLogBlock 23 = .ok (.aload_n 0, 1) := by decide +kernel
theorem dX5_nextLogBlock_24 : decode cX5_nextLogBlock 24 = .ok (.getfield 21, 3) := by decide +kernel
theorem dX5_nextLogBlock_27 : decode cX5_nextLogBlock 27 = .ok (.iload_n 1, 1) := by decide +kernel
theorem dX5_nextLogBlock_28 : decode cX5_nextLogBlock 28 = .ok (.invokevirtual 164, 3) := by decide +kernel
theorem dX5_nextLogBlock_31 : decode cX5_nextLogBlock 31 = .ok (.iconst 4, 1) := by decide +kernel
theorem dX5_nextLogBlock_32 : decode cX5_nextLogBlock 32 = .ok (.if_icmp .ne 35, 3) := by decide +kernel
theorem dX5_nextLogBlock_35 : decode cX5_nextLogBlock 35 = .ok (.iload_n 2, 1) := by decide +kernel
theorem dX5_nextLogBlock_36 : decode cX5_nextLogBlock 36 = .ok (.iconst 1, 1) := by decide +kernel
theorem dX5_nextLogBlock_37 : decode cX5_nextLogBlock 37 = .ok (.if_icmp .lt 30, 3) := by decide +kernel
theorem dX5_nextLogBlock_40 : decode cX5_nextLogBlock 40 = .ok (.iload_n 2, 1) := by decide +kernel
theorem dX5_nextLogBlock_41 : decode cX5_nextLogBlock 41 = .ok (.iconst 3, 1) := by decide +kernel
theorem dX5_nextLogBlock_42 : decode cX5_nextLogBlock 42 = .ok (.if_icmp .gt 25, 3) := by decide +kernel
theorem dX5_nextLogBlock_45 : decode cX5_nextLogBlock 45 = .ok (.aload_n 0, 1) := by decide +kernel
theorem dX5_nextLogBlock_46 : decode cX5_nextLogBlock 46 = .ok (.getfield 14, 3) := by decide +kernel
theorem dX5_nextLogBlock_49 : decode cX5_nextLogBlock 49 = .ok (.iload_n 1, 1) := by decide +kernel
theorem dX5_nextLogBlock_50 : decode cX5_nextLogBlock 50 = .ok (.iconst 2, 1) := by decide +kernel
theorem dX5_nextLogBlock_51 : decode cX5_nextLogBlock 51 = .ok (.bipush 6, 2) := by decide +kernel
theorem dX5_nextLogBlock_53 : decode cX5_nextLogBlock 53 = .ok (.invokevirtual 258, 3) := by decide +kernel
theorem dX5_nextLogBlock_56 : decode cX5_nextLogBlock 56 = .ok (.aload_n 0, 1) := by decide +kernel
theorem dX5_nextLogBlock_57 : decode cX5_nextLogBlock 57 = .ok (.getfield 53, 3) := by decide +kernel
theorem dX5_nextLogBlock_60 : decode cX5_nextLogBlock 60 = .ok (.i2l, 1) := by decide +kernel
theorem dX5_nextLogBlock_61 : decode cX5_nextLogBlock 61 = .ok (.lcmp, 1) := by decide +kernel
theorem dX5_nextLogBlock_62 : decode cX5_nextLogBlock 62 = .ok (.ifCond .ne 5, 3) := by decide +kernel
theorem dX5_nextLogBlock_65 : decode cX5_nextLogBlock 65 = .ok (.iload_n 1, 1) := by decide +kernel
theorem dX5_nextLogBlock_66 : decode cX5_nextLogBlock 66 = .ok (.ireturn, 1) := by decide +kernel
theorem dX5_nextLogBlock_67 : decode cX5_nextLogBlock 67 = .ok (.iinc 1 1, 3) := by decide +kernel
theorem dX5_nextLogBlock_70 : decode cX5_nextLogBlock 70 = .ok (.goto (-68), 3) := by decide +kernel
theorem dX5_nextLogBlock_73 : decode cX5_nextLogBlock 73 = .ok (.bipush (-2), 2) := by decide +kernel
theorem dX5_nextLogBlock_75 : decode cX5_nextLogBlock 75 = .ok (.ireturn, 1) := by decide +kernel
theorem dX5_readLogBlock_0 : decode cX5_readLogBlock 0 = .ok (.aload_n 0, 1) := by decide +kernel
theorem dX5_readLogBlock_1 : decode cX5_readLogBlock 1 = .ok (.getfield 14, 3) := by decide +kernel
theorem dX5_readLogBlock_4 : decode cX5_readLogBlock 4 = .ok (.iload_n 1, 1) := by decide +kernel
theorem dX5_readLogBlock_5 : decode cX5_readLogBlock 5 = .ok (.iconst 1, 1) := by decide +kernel
theorem dX5_readLogBlock_6 : decode cX5_readLogBlock 6 = .ok (.invokevirtual 167, 3) := by decide +kernel
theorem dX5_readLogBlock_9 : decode cX5_readLogBlock 9 = .ok (.istore_n 2, 1) := by decide +kernel
theorem dX5_readLogBlock_10 : decode cX5_readLogBlock 10 = .ok (.iconst 0, 1) := by decide +kernel
theorem dX5_readLogBlock_11 : decode cX5_readLogBlock 11 = .ok (.istore_n 3, 1) := by decide +kernel
theorem dX5_readLogBlock_12 : decode cX5_readLogBlock 12 = .ok (.iload_n 3, 1) := by decide +kernel
theorem dX5_readLogBlock_13 : decode cX5_readLogBlock 13 = .ok (.iload_n 2, 1) := by decide +kernel
theorem dX5_readLogBlock_14 : decode cX5_readLogBlock 14 = .ok (.if_icmp .ge 21, 3) := by decide +kernel
theorem dX5_readLogBlock_17 : decode cX5_readLogBlock 17 = .ok (.aload_n 0, 1) := by decide +kernel
theorem dX5_readLogBlock_18 : decode cX5_readLogBlock 18 = .ok (.iload_n 1, 1) := by decide +kernel
theorem dX5_readLogBlock_19 : decode cX5_readLogBlock 19 = .ok (.iload_n 3, 1) := by decide +kernel
theorem dX5_readLogBlock_20 : decode cX5_readLogBlock 20 = .ok (.aload_n 0, 1) := by decide +kernel
theorem dX5_readLogBlock_21 : decode cX5_readLogBlock 21 = .ok (.getfield 53, 3) := by decide +kernel
theorem dX5_readLogBlock_24 : decode cX5_readLogBlock 24 = .ok (.iload_n 3, 1) := by decide +kernel
theorem dX5_readLogBlock_25 : decode cX5_readLogBlock 25 = .ok (.iadd, 1) := by decide +kernel
theorem dX5_readLogBlock_26 : decode cX5_readLogBlock 26 = .ok (.invokevirtual 262, 3) := by decide +kernel
theorem dX5_readLogBlock_29 : decode cX5_readLogBlock 29 = .ok (.iinc 3 1, 3) := by decide +kernel
theorem dX5_readLogBlock_32 : decode cX5_readLogBlock 32 = .ok (.goto (-20), 3) := by decide +kernel
theorem dX5_readLogBlock_35 : decode cX5_readLogBlock 35 = .ok (.aload_n 0, 1) := by decide +kernel
theorem dX5_readLogBlock_36 : decode cX5_readLogBlock 36 = .ok (.dup, 1) := by decide +kernel
theorem dX5_readLogBlock_37 : decode cX5_readLogBlock 37 = .ok (.getfield 53, 3) := by decide +kernel
theorem dX5_readLogBlock_40 : decode cX5_readLogBlock 40 = .ok (.iload_n 2, 1) := by decide +kernel
theorem dX5_readLogBlock_41 : decode cX5_readLogBlock 41 = .ok (.iadd, 1) := by decide +kernel
theorem dX5_readLogBlock_42 : decode cX5_readLogBlock 42 = .ok (.putfield 53, 3) := by decide +kernel
theorem dX5_readLogBlock_45 : decode cX5_readLogBlock 45 = .ok (.aload_n 0, 1) := by decide +kernel
theorem dX5_readLogBlock_46 : decode cX5_readLogBlock 46 = .ok (.getfield 21, 3) := by decide +kernel
theorem dX5_readLogBlock_49 : decode cX5_readLogBlock 49 = .ok (.iload_n 1, 1) := by decide +kernel
theorem dX5_readLogBlock_50 : decode cX5_readLogBlock 50 = .ok (.iconst 1, 1) := by decide +kernel
theorem dX5_readLogBlock_51 : decode cX5_readLogBlock 51 = .ok (.iconst 1, 1) := by decide +kernel
theorem dX5_readLogBlock_52 : decode cX5_readLogBlock 52 = .ok (.invokevirtual 225, 3) := by decide +kernel
theorem dX5_readLogBlock_55 : decode cX5_readLogBlock 55 = .ok (.return_, 1) := by decide +kernel
theorem dX5_wipeOldLog_0 : decode cX5_wipeOldLog 0 = .ok (.iconst 2, 1) := by decide +kernel
theorem dX5_wipeOldLog_1 : decode cX5_wipeOldLog 1 = .ok (.istore_n 1, 1) := by decide +kernel
theorem dX5_wipeOldLog_2 : decode cX5_wipeOldLog 2 = .ok (.iload_n 1, 1) := by decide +kernel
theorem dX5_wipeOldLog_3 : decode cX5_wipeOldLog 3 = .ok (.aload_n 0, 1) := by decide +kernel
theorem dX5_wipeOldLog_4 : decode cX5_wipeOldLog 4 = .ok (.getfield 14, 3) := by decide +kernel
theorem dX5_wipeOldLog_7 : decode cX5_wipeOldLog 7 = .ok (.getfield 173, 3) := by decide +kernel
theorem dX5_wipeOldLog_10 : decode cX5_wipeOldLog 10 = .ok (.if_icmp .ge 29, 3) := by decide +kernel
theorem dX5_wipeOldLog_13 : decode cX5_wipeOldLog 13 = .ok (.aload_n 0, 1) := by decide +kernel
theorem dX5_wipeOldLog_14 : decode cX5_wipeOldLog 14 = .ok (.getfield 21, 3) := by decide +kernel
theorem dX5_wipeOldLog_17 : decode cX5_wipeOldLog 17 = .ok (.iload_n 1, 1) := by decide +kernel
theorem dX5_wipeOldLog_18 : decode cX5_wipeOldLog 18 = .ok (.invokevirtual 164, 3) := by decide +kernel
theorem dX5_wipeOldLog_21 : decode cX5_wipeOldLog 21 = .ok (.iconst 4, 1) := by decide +kernel
theorem dX5_wipeOldLog_22 : decode cX5_wipeOldLog 22 = .ok (.if_icmp .ne 11, 3) := by decide +kernel
theorem dX5_wipeOldLog_25 : decode cX5_wipeOldLog 25 = .ok (.aload_n 0, 1) := by decide +kernel
theorem dX5_wipeOldLog_26 : decode cX5_wipeOldLog 26 = .ok (.getfield 14, 3) := by decide +kernel
theorem dX5_wipeOldLog_29 : decode cX5_wipeOldLog 29 = .ok (.iload_n 1, 1) := by decide +kernel
theorem dX5_wipeOldLog_30 : decode cX5_wipeOldLog 30 = .ok (.invokevirtual 277, 3) := by decide +kernel
theorem dX5_wipeOldLog_33 : decode cX5_wipeOldLog 33 = .ok (.iinc 1 1, 3) := by decide +kernel
theorem dX5_wipeOldLog_36 : decode cX5_wipeOldLog 36 = .ok (.goto (-34), 3) := by decide +kernel
theorem dX5_wipeOldLog_39 : decode cX5_wipeOldLog 39 = .ok (.aload_n 0, 1) := by decide +kernel
theorem dX5_wipeOldLog_40 : decode cX5_wipeOldLog 40 = .ok (.getfield 21, 3) := by decide +kernel
theorem dX5_wipeOldLog_43 : decode cX5_wipeOldLog 43 = .ok (.iconst 4, 1) := by decide +kernel
theorem dX5_wipeOldLog_44 : decode cX5_wipeOldLog 44 = .ok (.iconst 0, 1) := by decide +kernel
theorem dX5_wipeOldLog_45 : decode cX5_wipeOldLog 45 = .ok (.invokevirtual 244, 3) := by decide +kernel
theorem dX5_wipeOldLog_48 : decode cX5_wipeOldLog 48 = .ok (.return_, 1) := by decide +kernel
end
section
-- my own rows over the kit's: numbers that are Nats, booleans, contracts with one world
def bI (b : Bool) : Int32 := if b then 1 else 0
theorem bI_t : bI true = 1 := rfl
theorem bI_f : bI false = 0 := rfl
theorem bI_0 {b : Bool} : bI b = 0 ↔ b = false := by cases b <;> decide
theorem x_narZ (b : Bool) : narrow .boolean (.int (bI b)) = .int (bI b) := by cases b <;> decide +kernel
theorem x_fitZ (b : Bool) : fits .boolean (.int (bI b)) = true := by cases b <;> decide +kernel
theorem x_inc (n : Nat) : nI n + Int32.ofInt 1 = nI (n + 1) := nI_1 n
theorem x_incK (n k : Nat) {z : Int} (h : Int32.ofInt z = nI k) : nI n + Int32.ofInt z = nI (n + k) := by rw [h]; exact nI_add n k
theorem x_decr {n : Nat} (h : 0 < n) : nI n + Int32.ofInt (-1) = nI (n - 1) := sb_m1 h
section XR
variable {p : Program} {l : Launch} {e : Env} {R : Room} {s : State} {m : MethodId} {args : Array Value} {below : List Frame} {meth : Method} {c : Code} {H : Heap} {locs : List Loc} {cells slots : Nat} {Q : State → Prop}
variable {cc : ByteArray} {pc : Nat} {ls : Array Slot} {rest : List Value}
theorem x_top {x y : Int32} (h : x = y) (k : W p l e R s m args below meth c H locs cells slots Q (F0 m pc ls (.int y :: rest))) : W p l e R s m args below meth c H locs cells slots Q (F0 m pc ls (.int x :: rest)) := h ▸ k
theorem x_topl {x y : Int64} (h : x = y) (k : W p l e R s m args below meth c H locs cells slots Q (F0 m pc ls (.long y :: rest))) : W p l e R s m args below meth c H locs cells slots Q (F0 m pc ls (.long x :: rest)) := h ▸ k
theorem x_iadd (hexec : p.tables.exec = Jvm.exec) (hb : c.code = cc) {x y : Nat} (hdg : decode cc pc = .ok (.iadd, 1))
    (k : W p l e R s m args below meth c H locs cells slots Q (F0 m (pc + 1) ls (.int (nI (x + y)) :: rest))) : W p l e R s m args below meth c H locs cells slots Q (F0 m pc ls (.int (nI y) :: .int (nI x) :: rest)) := lv_iadd hexec hb hdg (by rw [nI_add]; exact k)
theorem x_imul (hexec : p.tables.exec = Jvm.exec) (hb : c.code = cc) {x y : Nat} (hdg : decode cc pc = .ok (.imul, 1))
    (k : W p l e R s m args below meth c H locs cells slots Q (F0 m (pc + 1) ls (.int (nI (x * y)) :: rest))) : W p l e R s m args below meth c H locs cells slots Q (F0 m pc ls (.int (nI y) :: .int (nI x) :: rest)) := lv_imul hexec hb hdg (by rw [pk_mul]; exact k)
theorem x_isub (hexec : p.tables.exec = Jvm.exec) (hb : c.code = cc) {x y : Nat} (hdg : decode cc pc = .ok (.isub, 1)) (h : y ≤ x)
    (k : W p l e R s m args below meth c H locs cells slots Q (F0 m (pc + 1) ls (.int (nI (x - y)) :: rest))) : W p l e R s m args below meth c H locs cells slots Q (F0 m pc ls (.int (nI y) :: .int (nI x) :: rest)) := lv_isub hexec hb hdg (by rw [pk_sub h]; exact k)
theorem x_idiv (hexec : p.tables.exec = Jvm.exec) (hb : c.code = cc) {x y : Nat} (hdg : decode cc pc = .ok (.idiv, 1)) (h1 : x < 2 ^ 31) (h2 : 0 < y) (h3 : y < 2 ^ 31)
    (k : W p l e R s m args below meth c H locs cells slots Q (F0 m (pc + 1) ls (.int (nI (x / y)) :: rest))) : W p l e R s m args below meth c H locs cells slots Q (F0 m pc ls (.int (nI y) :: .int (nI x) :: rest)) := lv_idiv hexec hb hdg (nI_ne0 h2 h3) (by rw [pk_div h1 h2 h3]; exact k)
theorem x_irem (hexec : p.tables.exec = Jvm.exec) (hb : c.code = cc) {x y : Nat} (hdg : decode cc pc = .ok (.irem, 1)) (h1 : x < 2 ^ 31) (h2 : 0 < y) (h3 : y < 2 ^ 31)
    (k : W p l e R s m args below meth c H locs cells slots Q (F0 m (pc + 1) ls (.int (nI (x % y)) :: rest))) : W p l e R s m args below meth c H locs cells slots Q (F0 m pc ls (.int (nI y) :: .int (nI x) :: rest)) := lv_irem hexec hb hdg (nI_ne0 h2 h3) (by rw [pk_rem h1 h2 h3]; exact k)
theorem x_icmp_lt (hexec : p.tables.exec = Jvm.exec) (hb : c.code = cc) {x y : Nat} {off : Int} {tgt : Nat} (hdg : decode cc pc = .ok (.if_icmp .lt off, 3)) (ht : (pc : Int) + off = (tgt : Int)) (h1 : x < 2 ^ 31) (h2 : y < 2 ^ 31)
    (kt : x < y → W p l e R s m args below meth c H locs cells slots Q (F0 m tgt ls rest)) (kf : y ≤ x → W p l e R s m args below meth c H locs cells slots Q (F0 m (pc + 3) ls rest)) : W p l e R s m args below meth c H locs cells slots Q (F0 m pc ls (.int (nI y) :: .int (nI x) :: rest)) :=
  lv_icmp_lt hexec hb hdg ht (fun h => kt ((nI_ltI h1 h2).mp h)) (fun h => kf (Nat.le_of_not_lt fun q => h ((nI_ltI h1 h2).mpr q)))
theorem x_icmp_ge (hexec : p.tables.exec = Jvm.exec) (hb : c.code = cc) {x y : Nat} {off : Int} {tgt : Nat} (hdg : decode cc pc = .ok (.if_icmp .ge off, 3)) (ht : (pc : Int) + off = (tgt : Int)) (h1 : x < 2 ^ 31) (h2 : y < 2 ^ 31)
    (kt : y ≤ x → W p l e R s m args below meth c H locs cells slots Q (F0 m tgt ls rest)) (kf : x < y → W p l e R s m args below meth c H locs cells slots Q (F0 m (pc + 3) ls rest)) : W p l e R s m args below meth c H locs cells slots Q (F0 m pc ls (.int (nI y) :: .int (nI x) :: rest)) :=
  lv_icmp_ge hexec hb hdg ht (fun h => kt ((nI_leI h2 h1).mp h)) (fun h => kf (Nat.lt_of_not_le fun q => h ((nI_leI h2 h1).mpr q)))
theorem x_icmp_gt (hexec : p.tables.exec = Jvm.exec) (hb : c.code = cc) {x y : Nat} {off : Int} {tgt : Nat} (hdg : decode cc pc = .ok (.if_icmp .gt off, 3)) (ht : (pc : Int) + off = (tgt : Int)) (h1 : x < 2 ^ 31) (h2 : y < 2 ^ 31)
    (kt : y < x → W p l e R s m args below meth c H locs cells slots Q (F0 m tgt ls rest)) (kf : x ≤ y → W p l e R s m args below meth c H locs cells slots Q (F0 m (pc + 3) ls rest)) : W p l e R s m args below meth c H locs cells slots Q (F0 m pc ls (.int (nI y) :: .int (nI x) :: rest)) :=
  lv_icmp_gt hexec hb hdg ht (fun h => kt ((nI_ltI h2 h1).mp h)) (fun h => kf (Nat.le_of_not_lt fun q => h ((nI_ltI h2 h1).mpr q)))
theorem x_icmp_le (hexec : p.tables.exec = Jvm.exec) (hb : c.code = cc) {x y : Nat} {off : Int} {tgt : Nat} (hdg : decode cc pc = .ok (.if_icmp .le off, 3)) (ht : (pc : Int) + off = (tgt : Int)) (h1 : x < 2 ^ 31) (h2 : y < 2 ^ 31)
    (kt : x ≤ y → W p l e R s m args below meth c H locs cells slots Q (F0 m tgt ls rest)) (kf : y < x → W p l e R s m args below meth c H locs cells slots Q (F0 m (pc + 3) ls rest)) : W p l e R s m args below meth c H locs cells slots Q (F0 m pc ls (.int (nI y) :: .int (nI x) :: rest)) :=
  lv_icmp_le hexec hb hdg ht (fun h => kt ((nI_leI h1 h2).mp h)) (fun h => kf (Nat.lt_of_not_le fun q => h ((nI_leI h1 h2).mpr q)))
theorem x_icmp_eq (hexec : p.tables.exec = Jvm.exec) (hb : c.code = cc) {x y : Nat} {off : Int} {tgt : Nat} (hdg : decode cc pc = .ok (.if_icmp .eq off, 3)) (ht : (pc : Int) + off = (tgt : Int)) (h1 : x < 2 ^ 31) (h2 : y < 2 ^ 31)
    (kt : x = y → W p l e R s m args below meth c H locs cells slots Q (F0 m tgt ls rest)) (kf : ¬ x = y → W p l e R s m args below meth c H locs cells slots Q (F0 m (pc + 3) ls rest)) : W p l e R s m args below meth c H locs cells slots Q (F0 m pc ls (.int (nI y) :: .int (nI x) :: rest)) :=
  lv_icmp_eq hexec hb hdg ht (fun h => kt ((nI_eq h1 h2).mp h)) (fun h => kf (fun q => h ((nI_eq h1 h2).mpr q)))
theorem x_icmp_ne (hexec : p.tables.exec = Jvm.exec) (hb : c.code = cc) {x y : Nat} {off : Int} {tgt : Nat} (hdg : decode cc pc = .ok (.if_icmp .ne off, 3)) (ht : (pc : Int) + off = (tgt : Int)) (h1 : x < 2 ^ 31) (h2 : y < 2 ^ 31)
    (kt : ¬ x = y → W p l e R s m args below meth c H locs cells slots Q (F0 m tgt ls rest)) (kf : x = y → W p l e R s m args below meth c H locs cells slots Q (F0 m (pc + 3) ls rest)) : W p l e R s m args below meth c H locs cells slots Q (F0 m pc ls (.int (nI y) :: .int (nI x) :: rest)) :=
  lv_icmp_ne hexec hb hdg ht (fun h => kt (fun q => h ((nI_eq h1 h2).mpr q))) (fun h => kf ((nI_eq h1 h2).mp h))
theorem x_if_lt (hexec : p.tables.exec = Jvm.exec) (hb : c.code = cc) {x : Nat} {off : Int} (hdg : decode cc pc = .ok (.ifCond .lt off, 3)) {tgt : Nat} (ht : (pc : Int) + off = (tgt : Int)) (h1 : x < 2 ^ 31)
    (kf : W p l e R s m args below meth c H locs cells slots Q (F0 m (pc + 3) ls rest)) : W p l e R s m args below meth c H locs cells slots Q (F0 m pc ls (.int (nI x) :: rest)) :=
  lv_if_lt hexec hb hdg ht (fun h => absurd h (nI_pos h1)) (fun _ => kf)
theorem x_if_ge (hexec : p.tables.exec = Jvm.exec) (hb : c.code = cc) {x : Nat} {off : Int} {tgt : Nat} (hdg : decode cc pc = .ok (.ifCond .ge off, 3)) (ht : (pc : Int) + off = (tgt : Int)) (h1 : x < 2 ^ 31)
    (kt : W p l e R s m args below meth c H locs cells slots Q (F0 m tgt ls rest)) : W p l e R s m args below meth c H locs cells slots Q (F0 m pc ls (.int (nI x) :: rest)) :=
  lv_if_ge hexec hb hdg ht (fun _ => kt) (fun h => absurd (nI_pos' h1) h)
theorem x_nz {x : Nat} (h1 : x < 2 ^ 31) : nI x = 0 ↔ x = 0 := nI_eq h1 (b := 0) (by decide)
theorem x_if_eq (hexec : p.tables.exec = Jvm.exec) (hb : c.code = cc) {x : Nat} {off : Int} {tgt : Nat} (hdg : decode cc pc = .ok (.ifCond .eq off, 3)) (ht : (pc : Int) + off = (tgt : Int)) (h1 : x < 2 ^ 31)
    (kt : x = 0 → W p l e R s m args below meth c H locs cells slots Q (F0 m tgt ls rest)) (kf : ¬ x = 0 → W p l e R s m args below meth c H locs cells slots Q (F0 m (pc + 3) ls rest)) : W p l e R s m args below meth c H locs cells slots Q (F0 m pc ls (.int (nI x) :: rest)) :=
  lv_if_eq hexec hb hdg ht (fun h => kt ((x_nz h1).mp h)) (fun h => kf (fun q => h ((x_nz h1).mpr q)))
theorem x_if_ne (hexec : p.tables.exec = Jvm.exec) (hb : c.code = cc) {x : Nat} {off : Int} {tgt : Nat} (hdg : decode cc pc = .ok (.ifCond .ne off, 3)) (ht : (pc : Int) + off = (tgt : Int)) (h1 : x < 2 ^ 31)
    (kt : ¬ x = 0 → W p l e R s m args below meth c H locs cells slots Q (F0 m tgt ls rest)) (kf : x = 0 → W p l e R s m args below meth c H locs cells slots Q (F0 m (pc + 3) ls rest)) : W p l e R s m args below meth c H locs cells slots Q (F0 m pc ls (.int (nI x) :: rest)) :=
  lv_if_ne hexec hb hdg ht (fun h => kt (fun q => h ((x_nz h1).mpr q))) (fun h => kf ((x_nz h1).mp h))
theorem x_if_gt (hexec : p.tables.exec = Jvm.exec) (hb : c.code = cc) {x : Nat} {off : Int} {tgt : Nat} (hdg : decode cc pc = .ok (.ifCond .gt off, 3)) (ht : (pc : Int) + off = (tgt : Int)) (h1 : x < 2 ^ 31)
    (kt : 0 < x → W p l e R s m args below meth c H locs cells slots Q (F0 m tgt ls rest)) (kf : x = 0 → W p l e R s m args below meth c H locs cells slots Q (F0 m (pc + 3) ls rest)) : W p l e R s m args below meth c H locs cells slots Q (F0 m pc ls (.int (nI x) :: rest)) :=
  lv_if_gt hexec hb hdg ht (fun h => kt ((nI_ltI (a := 0) (by decide) h1).mp h)) (fun h => kf (Nat.eq_zero_of_not_pos fun q => h ((nI_ltI (a := 0) (by decide) h1).mpr q)))
theorem x_if_le (hexec : p.tables.exec = Jvm.exec) (hb : c.code = cc) {x : Nat} {off : Int} {tgt : Nat} (hdg : decode cc pc = .ok (.ifCond .le off, 3)) (ht : (pc : Int) + off = (tgt : Int)) (h1 : x < 2 ^ 31)
    (kt : x = 0 → W p l e R s m args below meth c H locs cells slots Q (F0 m tgt ls rest)) (kf : 0 < x → W p l e R s m args below meth c H locs cells slots Q (F0 m (pc + 3) ls rest)) : W p l e R s m args below meth c H locs cells slots Q (F0 m pc ls (.int (nI x) :: rest)) :=
  lv_if_le hexec hb hdg ht (fun h => kt (Nat.le_zero.mp ((nI_leI (b := 0) h1 (by decide)).mp h))) (fun h => kf (Nat.pos_of_ne_zero fun q => h ((nI_leI (b := 0) h1 (by decide)).mpr (Nat.le_of_eq q))))
theorem x_if_eq_b (hexec : p.tables.exec = Jvm.exec) (hb : c.code = cc) {b : Bool} {off : Int} {tgt : Nat} (hdg : decode cc pc = .ok (.ifCond .eq off, 3)) (ht : (pc : Int) + off = (tgt : Int))
    (kt : b = false → W p l e R s m args below meth c H locs cells slots Q (F0 m tgt ls rest)) (kf : b = true → W p l e R s m args below meth c H locs cells slots Q (F0 m (pc + 3) ls rest)) : W p l e R s m args below meth c H locs cells slots Q (F0 m pc ls (.int (bI b) :: rest)) :=
  lv_if_eq hexec hb hdg ht (fun h => kt (bI_0.mp h)) (fun h => kf (by cases b with | false => exact absurd rfl h | true => rfl))
theorem x_if_ne_b (hexec : p.tables.exec = Jvm.exec) (hb : c.code = cc) {b : Bool} {off : Int} {tgt : Nat} (hdg : decode cc pc = .ok (.ifCond .ne off, 3)) (ht : (pc : Int) + off = (tgt : Int))
    (kt : b = true → W p l e R s m args below meth c H locs cells slots Q (F0 m tgt ls rest)) (kf : b = false → W p l e R s m args below meth c H locs cells slots Q (F0 m (pc + 3) ls rest)) : W p l e R s m args below meth c H locs cells slots Q (F0 m pc ls (.int (bI b) :: rest)) :=
  lv_if_ne hexec hb hdg ht (fun h => kt (by cases b with | false => exact absurd rfl h | true => rfl)) (fun h => kf (bI_0.mp h))
theorem x_lif_eq (hexec : p.tables.exec = Jvm.exec) (hb : c.code = cc) {x y : Int64} {off : Int} {tgt : Nat} (hdg : decode cc pc = .ok (.ifCond .eq off, 3)) (ht : (pc : Int) + off = (tgt : Int))
    (kt : x = y → W p l e R s m args below meth c H locs cells slots Q (F0 m tgt ls rest)) (kf : ¬ x = y → W p l e R s m args below meth c H locs cells slots Q (F0 m (pc + 3) ls rest)) : W p l e R s m args below meth c H locs cells slots Q (F0 m pc ls (.int (lg_cmp x y) :: rest)) :=
  lv_if_eq hexec hb hdg ht (fun h => kt ((lg_cmp_eq x y).mp h)) (fun h => kf (fun q => h ((lg_cmp_eq x y).mpr q)))
theorem x_lif_ne (hexec : p.tables.exec = Jvm.exec) (hb : c.code = cc) {x y : Int64} {off : Int} {tgt : Nat} (hdg : decode cc pc = .ok (.ifCond .ne off, 3)) (ht : (pc : Int) + off = (tgt : Int))
    (kt : ¬ x = y → W p l e R s m args below meth c H locs cells slots Q (F0 m tgt ls rest)) (kf : x = y → W p l e R s m args below meth c H locs cells slots Q (F0 m (pc + 3) ls rest)) : W p l e R s m args below meth c H locs cells slots Q (F0 m pc ls (.int (lg_cmp x y) :: rest)) :=
  lv_if_ne hexec hb hdg ht (fun h => kt (fun q => h ((lg_cmp_eq x y).mpr q))) (fun h => kf ((lg_cmp_eq x y).mp h))
theorem x_lif_lt (hexec : p.tables.exec = Jvm.exec) (hb : c.code = cc) {x y : Int64} {off : Int} {tgt : Nat} (hdg : decode cc pc = .ok (.ifCond .lt off, 3)) (ht : (pc : Int) + off = (tgt : Int))
    (kt : x < y → W p l e R s m args below meth c H locs cells slots Q (F0 m tgt ls rest)) (kf : ¬ x < y → W p l e R s m args below meth c H locs cells slots Q (F0 m (pc + 3) ls rest)) : W p l e R s m args below meth c H locs cells slots Q (F0 m pc ls (.int (lg_cmp x y) :: rest)) :=
  lv_if_lt hexec hb hdg ht (fun h => kt ((lg_cmp_lt x y).mp h)) (fun h => kf (fun q => h ((lg_cmp_lt x y).mpr q)))
theorem x_lif_ge (hexec : p.tables.exec = Jvm.exec) (hb : c.code = cc) {x y : Int64} {off : Int} {tgt : Nat} (hdg : decode cc pc = .ok (.ifCond .ge off, 3)) (ht : (pc : Int) + off = (tgt : Int))
    (kt : y ≤ x → W p l e R s m args below meth c H locs cells slots Q (F0 m tgt ls rest)) (kf : ¬ y ≤ x → W p l e R s m args below meth c H locs cells slots Q (F0 m (pc + 3) ls rest)) : W p l e R s m args below meth c H locs cells slots Q (F0 m pc ls (.int (lg_cmp x y) :: rest)) :=
  lv_if_ge hexec hb hdg ht (fun h => kt ((lg_cmp_ge x y).mp h)) (fun h => kf (fun q => h ((lg_cmp_ge x y).mpr q)))
theorem x_lif_gt (hexec : p.tables.exec = Jvm.exec) (hb : c.code = cc) {x y : Int64} {off : Int} {tgt : Nat} (hdg : decode cc pc = .ok (.ifCond .gt off, 3)) (ht : (pc : Int) + off = (tgt : Int))
    (kt : y < x → W p l e R s m args below meth c H locs cells slots Q (F0 m tgt ls rest)) (kf : ¬ y < x → W p l e R s m args below meth c H locs cells slots Q (F0 m (pc + 3) ls rest)) : W p l e R s m args below meth c H locs cells slots Q (F0 m pc ls (.int (lg_cmp x y) :: rest)) :=
  lv_if_gt hexec hb hdg ht (fun h => kt ((lg_cmp_gt x y).mp h)) (fun h => kf (fun q => h ((lg_cmp_gt x y).mpr q)))
theorem x_lif_le (hexec : p.tables.exec = Jvm.exec) (hb : c.code = cc) {x y : Int64} {off : Int} {tgt : Nat} (hdg : decode cc pc = .ok (.ifCond .le off, 3)) (ht : (pc : Int) + off = (tgt : Int))
    (kt : x ≤ y → W p l e R s m args below meth c H locs cells slots Q (F0 m tgt ls rest)) (kf : ¬ x ≤ y → W p l e R s m args below meth c H locs cells slots Q (F0 m (pc + 3) ls rest)) : W p l e R s m args below meth c H locs cells slots Q (F0 m pc ls (.int (lg_cmp x y) :: rest)) :=
  lv_if_le hexec hb hdg ht (fun h => kt ((lg_cmp_le x y).mp h)) (fun h => kf (fun q => h ((lg_cmp_le x y).mpr q)))
end XR
section XMM
variable {p : Program} {l : Launch} {e : Env} {R : Room} {s : State} {m : MethodId} {args : Array Value} {below : List Frame} {meth : Method} {c : Code} {H : Heap} {locs : List Loc} {cells slots : Nat} {Q : State → Prop}
variable {cc : ByteArray} {pc : Nat} {ls : Array Slot} {rest : List Value}
theorem x_mmin (hexec : p.tables.exec = Jvm.exec) (hb : c.code = cc) (hml : c.maxLocals = ls.size) {own : String} {index : Nat} (hown : s.vm.findClass own = some m.cls) (hlink : (Cond.methodLink own index Lib.Math.min.name).before args s = true) (hstat : (Cond.static Lib.Math.min.name).before args s = true) (hini : (Cond.initialized "java/lang/Math").before args s = true) (hcode : (Cond.code Lib.Math.min.name Lib.Math.min.code 2 (some .int)).before args s = true)
    (hframes : 1 ≤ R.frames) (hlocals : (rest.map fun v => v.category).sum + 13 ≤ R.locals) (hc : cells ≤ R.cells) (hs : slots ≤ R.slots) {x y : Nat} (h1 : x < 2 ^ 31) (h2 : y < 2 ^ 31) (hdg : decode cc pc = .ok (.invokestatic index, 3))
    (kk : W p l e R s m args below meth c H locs cells slots Q (F0 m (pc + 3) ls (.int (nI (min x y)) :: rest))) : W p l e R s m args below meth c H locs cells slots Q (F0 m pc ls (.int (nI y) :: .int (nI x) :: rest)) := by
  refine va_mmin hexec hb hml hown hlink hstat hini hcode hframes hlocals hc hs hdg ?_
  have h : (if nI y < nI x then nI y else nI x) = nI (min x y) := by
    rcases Nat.lt_or_ge y x with q | q
    · rw [if_pos ((nI_ltI h2 h1).mpr q), Nat.min_eq_right (Nat.le_of_lt q)]
    · rw [if_neg (fun z => Nat.not_lt.mpr q ((nI_ltI h2 h1).mp z)), Nat.min_eq_left q]
  rw [h]; exact kk
theorem x_mmax (hexec : p.tables.exec = Jvm.exec) (hb : c.code = cc) (hml : c.maxLocals = ls.size) {own : String} {index : Nat} (hown : s.vm.findClass own = some m.cls) (hlink : (Cond.methodLink own index Lib.Math.max.name).before args s = true) (hstat : (Cond.static Lib.Math.max.name).before args s = true) (hini : (Cond.initialized "java/lang/Math").before args s = true) (hcode : (Cond.code Lib.Math.max.name Lib.Math.max.code 2 (some .int)).before args s = true)
    (hframes : 1 ≤ R.frames) (hlocals : (rest.map fun v => v.category).sum + 13 ≤ R.locals) (hc : cells ≤ R.cells) (hs : slots ≤ R.slots) {x y : Nat} (h1 : x < 2 ^ 31) (h2 : y < 2 ^ 31) (hdg : decode cc pc = .ok (.invokestatic index, 3))
    (kk : W p l e R s m args below meth c H locs cells slots Q (F0 m (pc + 3) ls (.int (nI (max x y)) :: rest))) : W p l e R s m args below meth c H locs cells slots Q (F0 m pc ls (.int (nI y) :: .int (nI x) :: rest)) := by
  refine va_mmax hexec hb hml hown hlink hstat hini hcode hframes hlocals hc hs hdg ?_
  have h : (if nI x < nI y then nI y else nI x) = nI (max x y) := by
    rcases Nat.lt_or_ge x y with q | q
    · rw [if_pos ((nI_ltI h1 h2).mpr q), Nat.max_eq_right (Nat.le_of_lt q)]
    · rw [if_neg (fun z => Nat.not_lt.mpr q ((nI_ltI h1 h2).mp z)), Nat.max_eq_left q]
  rw [h]; exact kk
end XMM
section XSW
variable {p : Program} {l : Launch} {e : Env} {R : Room} {s : State} {m : MethodId} {args : Array Value} {below : List Frame} {meth : Method} {c : Code} {H : Heap} {locs : List Loc} {cells slots : Nat} {Q : State → Prop}
variable {cc : ByteArray} {pc : Nat} {ls : Array Slot} {rest : List Value}
theorem x_tabEq (hexec : p.tables.exec = Jvm.exec) (hb : c.code = cc) {dflt lo hi : Int} {offs : Array Int} {len : Nat} {x : Int32} {k : Nat} {off : Int} {tgt : Nat} (hdg : decode cc pc = .ok (.tableswitch dflt lo hi offs, len)) (hk : x = nI k) (h1 : ¬ (k : Int) < lo) (h2 : ¬ hi < (k : Int)) (h3 : k < 2 ^ 31) (ho : offs[((k : Int) - lo).toNat]? = some off) (ht : (pc : Int) + off = (tgt : Int))
    (kk : W p l e R s m args below meth c H locs cells slots Q (F0 m tgt ls rest)) : W p l e R s m args below meth c H locs cells slots Q (F0 m pc ls (.int x :: rest)) := by
  subst hk
  exact lv_tableIn hexec hb hdg (by rw [nI_toInt h3]; exact h1) (by rw [nI_toInt h3]; exact h2) (by rw [nI_toInt h3]; exact ho) ht kk
theorem x_tabIn (hexec : p.tables.exec = Jvm.exec) (hb : c.code = cc) {dflt lo hi : Int} {offs : Array Int} {len : Nat} {x k : Nat} {off : Int} {tgt : Nat} (hdg : decode cc pc = .ok (.tableswitch dflt lo hi offs, len)) (hk : x = k) (h1 : ¬ (k : Int) < lo) (h2 : ¬ hi < (k : Int)) (h3 : k < 2 ^ 31) (ho : offs[((k : Int) - lo).toNat]? = some off) (ht : (pc : Int) + off = (tgt : Int))
    (kk : W p l e R s m args below meth c H locs cells slots Q (F0 m tgt ls rest)) : W p l e R s m args below meth c H locs cells slots Q (F0 m pc ls (.int (nI x) :: rest)) := x_tabEq hexec hb hdg (by rw [hk]) h1 h2 h3 ho ht kk
theorem x_tabOut (hexec : p.tables.exec = Jvm.exec) (hb : c.code = cc) {dflt lo hi : Int} {offs : Array Int} {len : Nat} {x : Nat} {tgt : Nat} (hdg : decode cc pc = .ok (.tableswitch dflt lo hi offs, len)) (h3 : x < 2 ^ 31) (h : (x : Int) < lo ∨ hi < (x : Int)) (ht : (pc : Int) + dflt = (tgt : Int))
    (kk : W p l e R s m args below meth c H locs cells slots Q (F0 m tgt ls rest)) : W p l e R s m args below meth c H locs cells slots Q (F0 m pc ls (.int (nI x) :: rest)) := lv_tableOut hexec hb hdg (by rw [nI_toInt h3]; exact h) ht kk
theorem x_tabNo (hexec : p.tables.exec = Jvm.exec) (hb : c.code = cc) {dflt : Int} {lo hi : Nat} {offs : Array Int} {len : Nat} {x : Int32} {tgt : Nat} (hdg : decode cc pc = .ok (.tableswitch dflt (lo : Int) (hi : Int) offs, len)) (hno : ∀ k : Nat, lo ≤ k → k ≤ hi → x = nI k → False) (h3 : hi < 2 ^ 31) (ht : (pc : Int) + dflt = (tgt : Int))
    (kk : W p l e R s m args below meth c H locs cells slots Q (F0 m tgt ls rest)) : W p l e R s m args below meth c H locs cells slots Q (F0 m pc ls (.int x :: rest)) := by
  refine lv_tableOut hexec hb hdg ?_ ht kk
  rcases Int.lt_or_le x.toInt lo with q | q
  · exact Or.inl q
  · rcases Int.lt_or_le (hi : Int) x.toInt with r | r
    · exact Or.inr r
    · obtain ⟨k, hk⟩ : ∃ k : Nat, x.toInt = (k : Int) := ⟨x.toInt.toNat, by omega⟩
      exact (hno k (by omega) (by omega) (Int32.toInt_inj.mp (by rw [hk, nI_toInt (by omega)]))).elim
end XSW
end
section
-- arrays by Nat places; contracts with one world; calls
theorem x_bytes {x : Nat} : vp_nar .byte (sb_b x) = sb_b x := pk_vb _
theorem x_clamp {i n : Nat} (hi : i < n) (hn : n < 2 ^ 31) : (nI i).toNatClampNeg = i := nI_clamp (by omega)
theorem x_updI (u : Nat → Nat) (i v : Nat) : upd (fun j => nI (u j)) i (nI v) = fun j => nI (va_up u i v j) := by
  funext j; simp only [upd, va_up]; split <;> rfl
theorem x_updB (u : Nat → Nat) (i v : Nat) : upd (fun j => sb_b (u j)) i (sb_b v) = fun j => sb_b (va_up u i v j) := by
  funext j; simp only [upd, va_up]; split <;> rfl
theorem x_updL (u : Nat → Int64) (i : Nat) (v : Int64) : vp_updL u i v = va_up u i v := rfl
theorem x_updR (u : Nat → Int32) (i : Nat) (v : Int32) : upd u i v = va_up u i v := rfl
section XA
variable {p : Program} {l : Launch} {e : Env} {R : Room} {s : State} {m : MethodId} {args : Array Value} {below : List Frame} {meth : Method} {c : Code} {H : Heap} {locs : List Loc} {cells slots : Nat} {Q : State → Prop}
variable {cc : ByteArray} {pc : Nat} {ls : Array Slot} {rest : List Value} {D : va_G} {cl : List vw_C} {A : Nat → Prop} {a : Nat} {tys : List (ClassId × FieldType)} {ws : va_W} {H0 : Heap}
theorem x_iald (hexec : p.tables.exec = Jvm.exec) (hb : c.code = cc) (hK : va_K D cl tys s) (hP : va_P D cl ws H) (q0 t0 : Nat) {cA : ClassId} {n : Nat} {u : Nat → Nat} (ha : ws[q0]? = some (a, .inl (cA, n, .inl (fun j => nI (u j))))) (ht : tys[t0]? = some (cA, .int)) {i : Nat} (hi : i < n) (hn : n < 2 ^ 31) (hdg : decode cc pc = .ok (.iaload, 1))
    (kk : W p l e R s m args below meth c H locs cells slots Q (F0 m (pc + 1) ls (.int (nI (u i)) :: rest))) : W p l e R s m args below meth c H locs cells slots Q (F0 m pc ls (.int (nI i) :: .ref a :: rest)) :=
  va_iald hexec hb hK hP q0 t0 ha ht (vp_in_nI hi hn) hdg (by rw [x_clamp hi hn]; exact kk)
theorem x_ialdR (hexec : p.tables.exec = Jvm.exec) (hb : c.code = cc) (hK : va_K D cl tys s) (hP : va_P D cl ws H) (q0 t0 : Nat) {cA : ClassId} {n : Nat} {u : Nat → Int32} (ha : ws[q0]? = some (a, .inl (cA, n, .inl u))) (ht : tys[t0]? = some (cA, .int)) {i : Nat} (hi : i < n) (hn : n < 2 ^ 31) (hdg : decode cc pc = .ok (.iaload, 1))
    (kk : W p l e R s m args below meth c H locs cells slots Q (F0 m (pc + 1) ls (.int (u i) :: rest))) : W p l e R s m args below meth c H locs cells slots Q (F0 m pc ls (.int (nI i) :: .ref a :: rest)) :=
  va_iald hexec hb hK hP q0 t0 ha ht (vp_in_nI hi hn) hdg (by rw [x_clamp hi hn]; exact kk)
theorem x_bald (hexec : p.tables.exec = Jvm.exec) (hb : c.code = cc) (hK : va_K D cl tys s) (hP : va_P D cl ws H) (q0 t0 : Nat) {cA : ClassId} {n : Nat} {u : Nat → Nat} (ha : ws[q0]? = some (a, .inl (cA, n, .inl (fun j => sb_b (u j))))) (ht : tys[t0]? = some (cA, .byte)) {i : Nat} (hi : i < n) (hn : n < 2 ^ 31) (hdg : decode cc pc = .ok (.baload, 1))
    (kk : W p l e R s m args below meth c H locs cells slots Q (F0 m (pc + 1) ls (.int (sb_b (u i)) :: rest))) : W p l e R s m args below meth c H locs cells slots Q (F0 m pc ls (.int (nI i) :: .ref a :: rest)) :=
  va_bald hexec hb hK hP q0 t0 ha ht (vp_in_nI hi hn) hdg (by rw [x_clamp hi hn]; exact kk)
theorem x_lald (hexec : p.tables.exec = Jvm.exec) (hb : c.code = cc) (hK : va_K D cl tys s) (hP : va_P D cl ws H) (q0 t0 : Nat) {cA : ClassId} {n : Nat} {u : Nat → Int64} (ha : ws[q0]? = some (a, .inl (cA, n, .inr (.inl u)))) (ht : tys[t0]? = some (cA, .long)) {i : Nat} (hi : i < n) (hn : n < 2 ^ 31) (hdg : decode cc pc = .ok (.laload, 1))
    (kk : W p l e R s m args below meth c H locs cells slots Q (F0 m (pc + 1) ls (.long (u i) :: rest))) : W p l e R s m args below meth c H locs cells slots Q (F0 m pc ls (.int (nI i) :: .ref a :: rest)) :=
  va_lald hexec hb hK hP q0 t0 ha ht (vp_in_nI hi hn) hdg (by rw [x_clamp hi hn]; exact kk)
theorem x_iast (hexec : p.tables.exec = Jvm.exec) (hb : c.code = cc) (hK : va_K D cl tys s) (hP : va_P D cl ws H) (hD : va_D A ws) (hS : va_S A H0 H locs) (q0 t0 : Nat) {cA : ClassId} {n : Nat} {u : Nat → Nat} (ha : ws[q0]? = some (a, .inl (cA, n, .inl (fun j => nI (u j))))) (ht : tys[t0]? = some (cA, .int)) {i v : Nat} (hi : i < n) (hn : n < 2 ^ 31) (hdg : decode cc pc = .ok (.iastore, 1))
    (kk : ∀ (H1 : Heap) (locs1 : List Loc), va_P D cl (ws.set q0 (a, .inl (cA, n, .inl (fun j => nI (va_up u i v j))))) H1 → va_D A (ws.set q0 (a, .inl (cA, n, .inl (fun j => nI (va_up u i v j))))) → va_S A H0 H1 locs1 → W p l e R s m args below meth c H1 locs1 cells slots Q (F0 m (pc + 1) ls rest)) : W p l e R s m args below meth c H locs cells slots Q (F0 m pc ls (.int (nI v) :: .int (nI i) :: .ref a :: rest)) :=
  va_iast hexec hb hK hP hD hS q0 t0 ha ht (vp_in_nI hi hn) hdg (by rw [x_clamp hi hn, x_updI]; exact kk)
theorem x_iastR (hexec : p.tables.exec = Jvm.exec) (hb : c.code = cc) (hK : va_K D cl tys s) (hP : va_P D cl ws H) (hD : va_D A ws) (hS : va_S A H0 H locs) (q0 t0 : Nat) {cA : ClassId} {n : Nat} {u : Nat → Int32} (ha : ws[q0]? = some (a, .inl (cA, n, .inl u))) (ht : tys[t0]? = some (cA, .int)) {i : Nat} {v : Int32} (hi : i < n) (hn : n < 2 ^ 31) (hdg : decode cc pc = .ok (.iastore, 1))
    (kk : ∀ (H1 : Heap) (locs1 : List Loc), va_P D cl (ws.set q0 (a, .inl (cA, n, .inl (va_up u i v)))) H1 → va_D A (ws.set q0 (a, .inl (cA, n, .inl (va_up u i v)))) → va_S A H0 H1 locs1 → W p l e R s m args below meth c H1 locs1 cells slots Q (F0 m (pc + 1) ls rest)) : W p l e R s m args below meth c H locs cells slots Q (F0 m pc ls (.int v :: .int (nI i) :: .ref a :: rest)) :=
  va_iast hexec hb hK hP hD hS q0 t0 ha ht (vp_in_nI hi hn) hdg (by rw [x_clamp hi hn, x_updR]; exact kk)
theorem x_bast (hexec : p.tables.exec = Jvm.exec) (hb : c.code = cc) (hK : va_K D cl tys s) (hP : va_P D cl ws H) (hD : va_D A ws) (hS : va_S A H0 H locs) (q0 t0 : Nat) {cA : ClassId} {n : Nat} {u : Nat → Nat} (ha : ws[q0]? = some (a, .inl (cA, n, .inl (fun j => sb_b (u j))))) (ht : tys[t0]? = some (cA, .byte)) {i v : Nat} (hi : i < n) (hn : n < 2 ^ 31) (hdg : decode cc pc = .ok (.bastore, 1))
    (kk : ∀ (H1 : Heap) (locs1 : List Loc), va_P D cl (ws.set q0 (a, .inl (cA, n, .inl (fun j => sb_b (va_up u i v j))))) H1 → va_D A (ws.set q0 (a, .inl (cA, n, .inl (fun j => sb_b (va_up u i v j))))) → va_S A H0 H1 locs1 → W p l e R s m args below meth c H1 locs1 cells slots Q (F0 m (pc + 1) ls rest)) : W p l e R s m args below meth c H locs cells slots Q (F0 m pc ls (.int (sb_b v) :: .int (nI i) :: .ref a :: rest)) :=
  va_bast hexec hb hK hP hD hS q0 t0 ha ht (vp_in_nI hi hn) hdg (by rw [x_clamp hi hn, x_bytes, x_updB]; exact kk)
theorem x_last (hexec : p.tables.exec = Jvm.exec) (hb : c.code = cc) (hK : va_K D cl tys s) (hP : va_P D cl ws H) (hD : va_D A ws) (hS : va_S A H0 H locs) (q0 t0 : Nat) {cA : ClassId} {n : Nat} {u : Nat → Int64} (ha : ws[q0]? = some (a, .inl (cA, n, .inr (.inl u)))) (ht : tys[t0]? = some (cA, .long)) {i : Nat} {v : Int64} (hi : i < n) (hn : n < 2 ^ 31) (hdg : decode cc pc = .ok (.lastore, 1))
    (kk : ∀ (H1 : Heap) (locs1 : List Loc), va_P D cl (ws.set q0 (a, .inl (cA, n, .inr (.inl (va_up u i v))))) H1 → va_D A (ws.set q0 (a, .inl (cA, n, .inr (.inl (va_up u i v))))) → va_S A H0 H1 locs1 → W p l e R s m args below meth c H1 locs1 cells slots Q (F0 m (pc + 1) ls rest)) : W p l e R s m args below meth c H locs cells slots Q (F0 m pc ls (.long v :: .int (nI i) :: .ref a :: rest)) :=
  va_last hexec hb hK hP hD hS q0 t0 ha ht (vp_in_nI hi hn) hdg (by rw [x_clamp hi hn, x_updL]; exact kk)
theorem x_wP {w1 w2 : va_W} (h : w1 = w2) (hP : va_P D cl w1 H) : va_P D cl w2 H := h ▸ hP
theorem x_wD {w1 w2 : va_W} (h : w1 = w2) (hD : va_D A w1) : va_D A w2 := h ▸ hD
theorem x_lvc {nL : Nat} {l1 l2 : List (Nat × Value)} (h : l1 = l2) (hl : lv_has ls nL l1) : lv_has ls nL l2 := h ▸ hl
end XA
-- contracts: one world before, one behind, the answer
def xPre (NW : State → Prop) (D : va_G) (A : Nat → Prop) (tys : List (ClassId × FieldType)) (ws : va_W) (av : List Value) : Array Value → State → Prop :=
  va_Pc av (fun U => va_P D vwCl ws U.heap ∧ va_K D vwCl tys U ∧ va_D A ws ∧ NW U)
def xBk (D : va_G) (A : Nat → Prop) (ws : va_W) : Unit → State → Prop := fun _ t => va_P D vwCl ws t.heap ∧ va_D A ws
abbrev xQi (D : va_G) (A : Nat → Prop) (r : Int32) (ws : va_W) : Array Value → State → Outcome → State → Prop := va_Qi (fun (r' : Int32) (_ : Unit) => r' = r) (xBk D A ws) A
abbrev xQl (D : va_G) (A : Nat → Prop) (r : Int64) (ws : va_W) : Array Value → State → Outcome → State → Prop := va_Ql (fun (r' : Int64) (_ : Unit) => r' = r) (xBk D A ws) A
abbrev xQv (D : va_G) (A : Nat → Prop) (ws : va_W) : Array Value → State → Outcome → State → Prop := va_Qv (fun (_ : Unit) => True) (xBk D A ws) A
section XM
variable {l : Launch} {y : MethodName} {w w' : List Cond} {rm : Room} {NW : State → Prop} {D : va_G} {A : Nat → Prop} {tys : List (ClassId × FieldType)} {ws ws' : va_W} {av : List Value} {cc : ByteArray} {maxL : Nat}
theorem x_ofWi {r : Int32} (hy : plainName y.cls = true) (hw : w = Cond.code y cc maxL (some .int) :: w') (hn : (lg_sl av).length ≤ maxL)
    (body : ∀ (p : Program) (e : Env) (s : State) (m : MethodId) (args : Array Value) (below : List Frame) (meth : Method) (c : Code) (Q : State → Prop), p.tables.exec = Jvm.exec → c.code = cc → c.maxLocals = maxL → (∀ q ∈ w, q.before args s = true) → s.vm.findClass y.cls = some m.cls → va_K D vwCl tys s → NW s → va_P D vwCl ws s.heap → va_D A ws → va_S A s.heap s.heap [] →
      (∀ {pc : Nat} {ls : Array Slot} {H : Heap} {locs : List Loc} {v : Int32}, decode cc pc = .ok (.ireturn, 1) → v = r → va_P D vwCl ws' H → va_D A ws' → va_S A s.heap H locs → W p l e rm s m args below meth c H locs 0 0 Q (F0 m pc ls [.int v])) →
      ∀ ls : Array Slot, lv_has ls maxL (lv_args 0 av) → W p l e rm s m args below meth c s.heap [] 0 0 Q (F0 m 0 ls [])) : Met l y w rm (xPre NW D A tys ws av) (xQi D A r ws') 0 0 A := by
  refine Met.ofW (cc := cc) (maxL := maxL) (ret := some .int) hy hw ?_
  intro p e s m args below meth c s₁ B hml hv
  obtain ⟨rfl, hP, hK, hD, hN⟩ := hv
  have hlocks := B.notSynchronized
  have hx := B.exec
  have hb := B.bytes
  have hr := B.returns
  rw [lg_entry_eq]
  refine body p e s m _ below meth c _ B.exec B.bytes hml (atoms_spec (ws := w) B.pre) (findClass_of_methodNamed B.named) hK hN hP hD va_S.rf ?_ _ (lv_entry av hn)
  intro pc ls H locs v hd hvr hP hD hS
  exact W.iret hx hb hr (fun t ht hW => ⟨⟨v, (), rfl, hvr, by rw [ht]; exact hP, hD⟩, hS.F ht⟩) hS.2.2 hd
theorem x_ofWz {r : Int32} (hy : plainName y.cls = true) (hw : w = Cond.code y cc maxL (some .boolean) :: w') (hn : (lg_sl av).length ≤ maxL) (hz : narrow .boolean (.int r) = .int r)
    (body : ∀ (p : Program) (e : Env) (s : State) (m : MethodId) (args : Array Value) (below : List Frame) (meth : Method) (c : Code) (Q : State → Prop), p.tables.exec = Jvm.exec → c.code = cc → c.maxLocals = maxL → (∀ q ∈ w, q.before args s = true) → s.vm.findClass y.cls = some m.cls → va_K D vwCl tys s → NW s → va_P D vwCl ws s.heap → va_D A ws → va_S A s.heap s.heap [] →
      (∀ {pc : Nat} {ls : Array Slot} {H : Heap} {locs : List Loc} {v : Int32}, decode cc pc = .ok (.ireturn, 1) → v = r → va_P D vwCl ws' H → va_D A ws' → va_S A s.heap H locs → W p l e rm s m args below meth c H locs 0 0 Q (F0 m pc ls [.int v])) →
      ∀ ls : Array Slot, lv_has ls maxL (lv_args 0 av) → W p l e rm s m args below meth c s.heap [] 0 0 Q (F0 m 0 ls [])) : Met l y w rm (xPre NW D A tys ws av) (xQi D A r ws') 0 0 A := by
  refine Met.ofW (cc := cc) (maxL := maxL) (ret := some .boolean) hy hw ?_
  intro p e s m args below meth c s₁ B hml hv
  obtain ⟨rfl, hP, hK, hD, hN⟩ := hv
  have hlocks := B.notSynchronized
  have hx := B.exec
  have hb := B.bytes
  have hr := B.returns
  rw [lg_entry_eq]
  refine body p e s m _ below meth c _ B.exec B.bytes hml (atoms_spec (ws := w) B.pre) (findClass_of_methodNamed B.named) hK hN hP hD va_S.rf ?_ _ (lv_entry av hn)
  intro pc ls H locs v hd hvr hP hD hS
  exact W.zret hx hb hr (by rw [hvr]; exact hz) (fun t ht hW => ⟨⟨v, (), rfl, hvr, by rw [ht]; exact hP, hD⟩, hS.F ht⟩) hS.2.2 hd
theorem x_ofWl {r : Int64} (hy : plainName y.cls = true) (hw : w = Cond.code y cc maxL (some .long) :: w') (hn : (lg_sl av).length ≤ maxL)
    (body : ∀ (p : Program) (e : Env) (s : State) (m : MethodId) (args : Array Value) (below : List Frame) (meth : Method) (c : Code) (Q : State → Prop), p.tables.exec = Jvm.exec → c.code = cc → c.maxLocals = maxL → (∀ q ∈ w, q.before args s = true) → s.vm.findClass y.cls = some m.cls → va_K D vwCl tys s → NW s → va_P D vwCl ws s.heap → va_D A ws → va_S A s.heap s.heap [] →
      (∀ {pc : Nat} {ls : Array Slot} {H : Heap} {locs : List Loc} {v : Int64}, decode cc pc = .ok (.lreturn, 1) → v = r → va_P D vwCl ws' H → va_D A ws' → va_S A s.heap H locs → W p l e rm s m args below meth c H locs 0 0 Q (F0 m pc ls [.long v])) →
      ∀ ls : Array Slot, lv_has ls maxL (lv_args 0 av) → W p l e rm s m args below meth c s.heap [] 0 0 Q (F0 m 0 ls [])) : Met l y w rm (xPre NW D A tys ws av) (xQl D A r ws') 0 0 A := by
  refine Met.ofW (cc := cc) (maxL := maxL) (ret := some .long) hy hw ?_
  intro p e s m args below meth c s₁ B hml hv
  obtain ⟨rfl, hP, hK, hD, hN⟩ := hv
  have hlocks := B.notSynchronized
  have hx := B.exec
  have hb := B.bytes
  have hr := B.returns
  rw [lg_entry_eq]
  refine body p e s m _ below meth c _ B.exec B.bytes hml (atoms_spec (ws := w) B.pre) (findClass_of_methodNamed B.named) hK hN hP hD va_S.rf ?_ _ (lv_entry av hn)
  intro pc ls H locs v hd hvr hP hD hS
  exact W.lret hx hb hr (fun t ht hW => ⟨⟨v, (), rfl, hvr, by rw [ht]; exact hP, hD⟩, hS.F ht⟩) hS.2.2 hd
theorem x_ofWv (hy : plainName y.cls = true) (hw : w = Cond.code y cc maxL none :: w') (hn : (lg_sl av).length ≤ maxL)
    (body : ∀ (p : Program) (e : Env) (s : State) (m : MethodId) (args : Array Value) (below : List Frame) (meth : Method) (c : Code) (Q : State → Prop), p.tables.exec = Jvm.exec → c.code = cc → c.maxLocals = maxL → (∀ q ∈ w, q.before args s = true) → s.vm.findClass y.cls = some m.cls → va_K D vwCl tys s → NW s → va_P D vwCl ws s.heap → va_D A ws → va_S A s.heap s.heap [] →
      (∀ {pc : Nat} {ls : Array Slot} {H : Heap} {locs : List Loc}, decode cc pc = .ok (.return_, 1) → va_P D vwCl ws' H → va_D A ws' → va_S A s.heap H locs → W p l e rm s m args below meth c H locs 0 0 Q (F0 m pc ls [])) →
      ∀ ls : Array Slot, lv_has ls maxL (lv_args 0 av) → W p l e rm s m args below meth c s.heap [] 0 0 Q (F0 m 0 ls [])) : Met l y w rm (xPre NW D A tys ws av) (xQv D A ws') 0 0 A := by
  refine Met.ofW (cc := cc) (maxL := maxL) (ret := none) hy hw ?_
  intro p e s m args below meth c s₁ B hml hv
  obtain ⟨rfl, hP, hK, hD, hN⟩ := hv
  have hlocks := B.notSynchronized
  have hx := B.exec
  have hb := B.bytes
  have hr := B.returns
  rw [lg_entry_eq]
  refine body p e s m _ below meth c _ B.exec B.bytes hml (atoms_spec (ws := w) B.pre) (findClass_of_methodNamed B.named) hK hN hP hD va_S.rf ?_ _ (lv_entry av hn)
  intro pc ls H locs hd hP hD hS
  exact W.vret hx hb hr (fun t ht hW => ⟨⟨(), rfl, trivial, by rw [ht]; exact hP, hD⟩, hS.F ht⟩) hS.2.2 hd
end XM
section XC
variable {p : Program} {l : Launch} {e : Env} {R : Room} {s : State} {m : MethodId} {args : Array Value} {below : List Frame} {meth : Method} {c : Code} {H : Heap} {locs : List Loc} {cells slots : Nat} {Q : State → Prop}
variable {pc : Nat} {ls : Array Slot} {rest st0 : List Value} {a : Array Value} {D : va_G} {A : Nat → Prop} {ws ws' : va_W} {H0 : Heap} {tys : List (ClassId × FieldType)} {NW : State → Prop}
theorem x_calli {r : Int32} (hr : va_Run p l e R s m args below meth c H locs cells slots 0 0 (F0 m pc ls st0) rest (xQi D A r ws' a) A) (hS : va_S A H0 H locs)
    (kk : ∀ (H1 : Heap) (locs1 : List Loc), va_P D vwCl ws' H1 → va_D A ws' → va_S A H0 H1 locs1 → W p l e R s m args below meth c H1 locs1 cells slots Q (F0 m (pc + 3) ls (.int r :: rest))) : W p l e R s m args below meth c H locs cells slots Q (F0 m pc ls st0) :=
  va_calli hr hS (fun _ _ h => h) (fun _ h => h) (fun _ _ _ H1 locs1 ht _ hp hB _ _ hS1 => by
    subst hp
    exact kk H1 locs1 (ht ▸ hB.1) hB.2 hS1)
theorem x_calll {r : Int64} (hr : va_Run p l e R s m args below meth c H locs cells slots 0 0 (F0 m pc ls st0) rest (xQl D A r ws' a) A) (hS : va_S A H0 H locs)
    (kk : ∀ (H1 : Heap) (locs1 : List Loc), va_P D vwCl ws' H1 → va_D A ws' → va_S A H0 H1 locs1 → W p l e R s m args below meth c H1 locs1 cells slots Q (F0 m (pc + 3) ls (.long r :: rest))) : W p l e R s m args below meth c H locs cells slots Q (F0 m pc ls st0) :=
  va_calll hr hS (fun _ _ h => h) (fun _ h => h) (fun _ _ _ H1 locs1 ht _ hp hB _ _ hS1 => by
    subst hp
    exact kk H1 locs1 (ht ▸ hB.1) hB.2 hS1)
theorem x_callv (hr : va_Run p l e R s m args below meth c H locs cells slots 0 0 (F0 m pc ls st0) rest (xQv D A ws' a) A) (hS : va_S A H0 H locs)
    (kk : ∀ (H1 : Heap) (locs1 : List Loc), va_P D vwCl ws' H1 → va_D A ws' → va_S A H0 H1 locs1 → W p l e R s m args below meth c H1 locs1 cells slots Q (F0 m (pc + 3) ls rest)) : W p l e R s m args below meth c H locs cells slots Q (F0 m pc ls st0) :=
  va_callv hr hS (fun _ _ h => h) (fun _ h => h) (fun _ _ H1 locs1 ht _ _ hB _ _ hS1 => kk H1 locs1 (ht ▸ hB.1) hB.2 hS1)
end XC
-- links between the classes of one nest
def isNest : Cond → Bool
  | .fieldLinkNest .. => true
  | .methodLinkNest .. => true
  | _ => false
theorem isNest_warm {c : Cond} (h : isNest c = true) {s U : State} (hW : s.WarmedH U.vm) (hz : va_Nw c s) : va_Nw c U := by
  unfold isNest at h
  split at h
  · exact va_Nw.warmF hW hz
  · exact va_Nw.warmM hW hz
  · cases h
theorem isNest_tab {c : Cond} (h : isNest c = true) : c.onTables = true := by
  unfold isNest at h
  split at h
  · rfl
  · rfl
  · cases h
def nestW : List Cond := [.methodLinkNest RX5 11 yX0_init "SegmentLog",
  .fieldLinkNest RX1 64 "SegmentLog$Blocks" "size" "I" "SegmentLog",
  .fieldLinkNest RX5 173 "SegmentLog$Blocks" "size" "I" "SegmentLog",
  .methodLinkNest RX5 20 yX4_init "SegmentLog",
  .methodLinkNest RX5 27 yX2_init "SegmentLog",
  .methodLinkNest RX2 11 yX0_init "SegmentLog",
  .fieldLinkNest RX5 209 "SegmentLog$Queue" "images" "LSegmentLog$Blocks;" "SegmentLog",
  .fieldLinkNest RX5 189 "SegmentLog$Queue" "size" "I" "SegmentLog",
  .methodLinkNest RX5 34 yX3_init "SegmentLog",
  .fieldLinkNest RX5 94 "SegmentLog$Table" "size" "I" "SegmentLog",
  .methodLinkNest RX5 41 yX1_init "SegmentLog",
  .fieldLinkNest RX5 91 "SegmentLog$Head" "files" "I" "SegmentLog",
  .fieldLinkNest RX5 118 "SegmentLog$Head" "generation" "I" "SegmentLog",
  .fieldLinkNest RX5 90 "SegmentLog$Head" "next" "I" "SegmentLog",
  .methodLinkNest RX5 57 yX0_renew "SegmentLog",
  .methodLinkNest RX5 60 yX1_clear "SegmentLog",
  .methodLinkNest RX5 193 yX4_clear "SegmentLog",
  .methodLinkNest RX5 195 yX2_clear "SegmentLog",
  .methodLinkNest RX5 196 yX3_clear "SegmentLog",
  .methodLinkNest RX5 69 yX4_leastFree "SegmentLog",
  .methodLinkNest RX5 73 yX3_insert "SegmentLog",
  .methodLinkNest RX5 205 yX2_append "SegmentLog",
  .methodLinkNest RX2 32 yX0_wipe "SegmentLog",
  .methodLinkNest RX2 35 yX0_put "SegmentLog",
  .methodLinkNest RX5 212 yX0_putNumber "SegmentLog",
  .methodLinkNest RX5 216 yX3_withSequence "SegmentLog",
  .methodLinkNest RX5 148 yX3_key "SegmentLog",
  .methodLinkNest RX5 140 yX3_value "SegmentLog",
  .methodLinkNest RX5 222 yX2_seal "SegmentLog",
  .methodLinkNest RX2 39 yX0_sum "SegmentLog",
  .methodLinkNest RX2 43 yX0_putNumber "SegmentLog",
  .methodLinkNest RX5 225 yX4_mark "SegmentLog",
  .methodLinkNest RX5 83 yX2_bytes "SegmentLog",
  .methodLinkNest RX5 86 yX2_drain "SegmentLog",
  .methodLinkNest RX2 57 yX0_value "SegmentLog",
  .methodLinkNest RX5 101 yX4_leastRun "SegmentLog",
  .methodLinkNest RX5 228 yX1_appendAll "SegmentLog",
  .methodLinkNest RX5 232 yX1_append "SegmentLog",
  .methodLinkNest RX5 157 yX1_field "SegmentLog",
  .methodLinkNest RX5 151 yX3_sequence "SegmentLog",
  .methodLinkNest RX5 238 yX1_fieldAt "SegmentLog",
  .methodLinkNest RX5 244 yX4_turn "SegmentLog",
  .methodLinkNest RX5 248 yX3_settle "SegmentLog",
  .methodLinkNest RX5 251 yX1_read "SegmentLog",
  .methodLinkNest RX1 36 yX0_isWhole "SegmentLog",
  .methodLinkNest RX1 42 yX0_value "SegmentLog",
  .methodLinkNest RX1 45 yX0_number "SegmentLog",
  .methodLinkNest RX1 67 yX5_blocksFor "SegmentLog",
  .methodLinkNest RX5 177 yX0_isWhole "SegmentLog",
  .methodLinkNest RX5 167 yX0_value "SegmentLog",
  .methodLinkNest RX5 258 yX0_number "SegmentLog",
  .methodLinkNest RX5 164 yX4_of "SegmentLog",
  .methodLinkNest RX5 277 yX0_wipe "SegmentLog",
  .methodLinkNest RX5 133 yX3_upTo "SegmentLog",
  .methodLinkNest RX5 137 yX3_below "SegmentLog",
  .methodLinkNest RX5 144 yX3_has "SegmentLog",
  .methodLinkNest RX5 161 yX0_has "SegmentLog",
  .methodLinkNest RX5 169 yX0_put "SegmentLog",
  .methodLinkNest RX5 197 yX2_holds "SegmentLog",
  .methodLinkNest RX5 180 yX2_target "SegmentLog",
  .methodLinkNest RX5 186 yX4_howMany "SegmentLog"]
def Nst (U : State) : Prop := ∀ w ∈ nestW, va_Nw w U
theorem nestW_ok : ∀ w ∈ nestW, isNest w = true := by decide +kernel
theorem Nst.warm {s U : State} (h : Nst s) (hW : s.WarmedH U.vm) : Nst U := fun w hw => isNest_warm (nestW_ok w hw) hW (h w hw)
theorem Nst.call {U : State} (h : Nst U) (g : JFrame) (mk : MethodId) (a : Array Value) : Nst (U.calling g mk a) := fun w hw => va_Nw.same (u := U) (U := U.calling g mk a) (isNest_tab (nestW_ok w hw)) rfl (h w hw)
section XN
variable {s : State} {H : Heap} {D : va_G} {A : Nat → Prop} {tys : List (ClassId × FieldType)} {ws : va_W} {av : List Value}
theorem x_blind : FrameBlind (xPre Nst D A tys ws av) := fun a U g mk h => ⟨h.1, h.2.1, va_K.moved (u := U) (U := U.calling g mk a) (Vm.Alike.refl U.vm) h.2.2.1, h.2.2.2.1, h.2.2.2.2.call g mk a⟩
theorem x_pre (hK : va_K D vwCl tys s) (hP : va_P D vwCl ws H) (hD : va_D A ws) (hN : Nst s) : ∀ U : State, U.heap = H → s.WarmedH U.vm → xPre Nst D A tys ws av av.toArray U := fun U hU hW => ⟨rfl, by rw [hU]; exact hP, va_K.moved hW.alike hK, hD, hN.warm hW⟩
theorem y_blind : FrameBlind (xPre (fun _ => True) D A tys ws av) := fun a U g mk h => ⟨h.1, h.2.1, va_K.moved (u := U) (U := U.calling g mk a) (Vm.Alike.refl U.vm) h.2.2.1, h.2.2.2.1, trivial⟩
theorem y_pre (hK : va_K D vwCl tys s) (hP : va_P D vwCl ws H) (hD : va_D A ws) : ∀ U : State, U.heap = H → s.WarmedH U.vm → xPre (fun _ => True) D A tys ws av av.toArray U := fun U hU hW => ⟨rfl, by rw [hU]; exact hP, va_K.moved hW.alike hK, hD, trivial⟩
end XN
end
section
/-! ===== lN n to 2^64: shifts, and, or, masks, one bit ===== -/
theorem wb_tb (n : Nat) : (lN n).toBitVec = BitVec.ofNat 64 n := rfl
theorem wb_inj {a b : Int64} (h : a.toBitVec = b.toBitVec) : a = b := Int64.toBitVec_inj.mp h
theorem wb_tn {n : Nat} (h : n < 2 ^ 64) : (lN n).toBitVec.toNat = n := by rw [wb_tb, BitVec.toNat_ofNat, Nat.mod_eq_of_lt h]
theorem wb_of (x : Int64) : ∃ n, n < 2 ^ 64 ∧ x = lN n := ⟨x.toBitVec.toNat, x.toBitVec.isLt, wb_inj (by rw [wb_tb]; simp)⟩
theorem wb_of32 (x : Int32) : ∃ n, n < 2 ^ 32 ∧ x = nI n := ⟨x.toBitVec.toNat, x.toBitVec.isLt, Int32.toBitVec_inj.mp (by show _ = BitVec.ofNat 32 _; simp)⟩
theorem wb_c : ∀ k, k < 64 → ((nI k).toInt64 &&& 63) = lN k := by decide +kernel
theorem wb_cu : ∀ k, k < 64 → ((nI k).toInt64.toUInt64 &&& Int64.toUInt64 63) = UInt64.ofNat k := by decide +kernel
theorem wb_sm : ∀ k, k < 64 → (BitVec.ofNat 64 k).smod 64 = BitVec.ofNat 64 k := by decide +kernel
theorem wb_pw {a b : Nat} (h : a ≤ b) : 2 ^ b = 2 ^ a * 2 ^ (b - a) := by rw [← Nat.pow_add]; congr 1; omega
theorem wb_lt2 {a b : Nat} (h : a < b) : 2 ^ a < 2 ^ b := Nat.pow_lt_pow_right (by decide) h
theorem wb_mod (n : Nat) : lN n = lN (n % 2 ^ 64) := wb_inj (by rw [wb_tb, wb_tb]; apply BitVec.eq_of_toNat_eq; rw [BitVec.toNat_ofNat, BitVec.toNat_ofNat, Nat.mod_mod])
theorem wb_shr {n k : Nat} (hn : n < 2 ^ 64) (hk : k < 64) : ((lN n).toUInt64 >>> ((nI k).toInt64.toUInt64 &&& Int64.toUInt64 63)).toInt64 = lN (n / 2 ^ k) := by
  rw [wb_cu k hk]
  apply wb_inj
  apply BitVec.eq_of_toNat_eq
  show ((lN n).toUInt64 >>> UInt64.ofNat k).toNat = (BitVec.ofNat 64 _).toNat
  have h1 : (UInt64.ofNat k).toNat = k := by
    show (BitVec.ofNat 64 k).toNat = k
    rw [BitVec.toNat_ofNat, Nat.mod_eq_of_lt (by omega)]
  have h2 : (lN n).toUInt64.toNat = n := wb_tn hn
  rw [UInt64.toNat_shiftRight, h1, h2, Nat.mod_eq_of_lt hk, Nat.shiftRight_eq_div_pow, BitVec.toNat_ofNat, Nat.mod_eq_of_lt (Nat.lt_of_le_of_lt (Nat.div_le_self _ _) hn)]
theorem wb_shl (n : Nat) {k : Nat} (hk : k < 64) : lN n <<< ((nI k).toInt64 &&& 63) = lN (n * 2 ^ k) := by
  rw [wb_c k hk]
  apply wb_inj
  rw [Int64.toBitVec_shiftLeft, wb_tb, wb_tb, wb_tb, wb_sm k hk]
  apply BitVec.eq_of_toNat_eq
  rw [BitVec.shiftLeft_eq', BitVec.toNat_shiftLeft, BitVec.toNat_ofNat, BitVec.toNat_ofNat, BitVec.toNat_ofNat, Nat.mod_eq_of_lt (show k < 2 ^ 64 by omega), Nat.shiftLeft_eq, Nat.mul_mod, Nat.mod_mod, ← Nat.mul_mod]
theorem wb_and {a b : Nat} (ha : a < 2 ^ 64) (hb : b < 2 ^ 64) : lN a &&& lN b = lN (a &&& b) := by
  apply wb_inj
  rw [Int64.toBitVec_and, wb_tb, wb_tb, wb_tb]
  apply BitVec.eq_of_toNat_eq
  rw [BitVec.toNat_and, BitVec.toNat_ofNat, BitVec.toNat_ofNat, BitVec.toNat_ofNat, Nat.mod_eq_of_lt ha, Nat.mod_eq_of_lt hb, Nat.mod_eq_of_lt (Nat.and_lt_two_pow _ hb)]
theorem wb_or {a b : Nat} (ha : a < 2 ^ 64) (hb : b < 2 ^ 64) : lN a ||| lN b = lN (a ||| b) := by
  apply wb_inj
  rw [Int64.toBitVec_or, wb_tb, wb_tb, wb_tb]
  apply BitVec.eq_of_toNat_eq
  rw [BitVec.toNat_or, BitVec.toNat_ofNat, BitVec.toNat_ofNat, BitVec.toNat_ofNat, Nat.mod_eq_of_lt ha, Nat.mod_eq_of_lt hb, Nat.mod_eq_of_lt (Nat.or_lt_two_pow ha hb)]
theorem wb_mask {n k : Nat} (hn : n < 2 ^ 64) (hk : k < 64) : lN n &&& lN (2 ^ k - 1) = lN (n % 2 ^ k) := by
  rw [wb_and hn (by have := wb_lt2 hk; omega), Nat.and_two_pow_sub_one_eq_mod]
theorem wb_a1 {n : Nat} (hn : n < 2 ^ 64) : lN n &&& 1 = lN (n % 2) := wb_mask (k := 1) hn (by decide)
theorem wb_bit {n k : Nat} (hn : n < 2 ^ 64) (hk : k < 64) : ((lN n).toUInt64 >>> ((nI k).toInt64.toUInt64 &&& Int64.toUInt64 63)).toInt64 &&& 1 = lN (n / 2 ^ k % 2) := by
  rw [wb_shr hn hk, wb_a1 (Nat.lt_of_le_of_lt (Nat.div_le_self _ _) hn)]
theorem wb_xor {q k : Nat} (hk : k < 63) (h : 2 ^ k ≤ q) (h2 : q < 2 ^ (k + 1)) : lN q ^^^ lN (2 ^ k) = lN (q - 2 ^ k) := by
  obtain ⟨r, rfl⟩ : ∃ r, q = 2 ^ k + r := ⟨q - 2 ^ k, by omega⟩
  have hr : r < 2 ^ k := by rw [Nat.pow_succ] at h2; omega
  have hx : (2 ^ k + r) ^^^ 2 ^ k = r := by
    apply Nat.eq_of_testBit_eq
    intro i
    rw [Nat.testBit_xor, Nat.testBit_two_pow]
    rcases Nat.lt_trichotomy i k with h | h | h
    · rw [Nat.testBit_two_pow_add_gt h]
      simp [show ¬ k = i by omega]
    · subst h
      rw [Nat.testBit_two_pow_add_eq]
      simp
    · have a1 : 2 ^ (k + 1) ≤ 2 ^ i := Nat.pow_le_pow_right (by decide) h
      rw [Nat.testBit_lt_two_pow (show 2 ^ k + r < 2 ^ i by omega), Nat.testBit_lt_two_pow (show r < 2 ^ i by omega)]
      simp [show ¬ k = i by omega]
  have b1 := wb_lt2 (show k + 1 < 64 by omega)
  have b2 := wb_lt2 (show k < 64 by omega)
  apply wb_inj
  rw [Int64.toBitVec_xor, wb_tb, wb_tb, wb_tb]
  apply BitVec.eq_of_toNat_eq
  rw [BitVec.toNat_xor, BitVec.toNat_ofNat, BitVec.toNat_ofNat, BitVec.toNat_ofNat, Nat.mod_eq_of_lt (by omega : 2 ^ k + r < 2 ^ 64), Nat.mod_eq_of_lt b2, hx, Nat.add_sub_cancel_left, Nat.mod_eq_of_lt (by omega)]
/-! ===== lN: masks, 'or' of parts that don't overlap is a sum ===== -/
theorem u_tn {n : Nat} (h : n < 2 ^ 64) : (UInt64.ofNat n).toNat = n := Nat.mod_eq_of_lt h
theorem g_and {a b c : Nat} (ha : a < 2 ^ 64) (hb : b < 2 ^ 64) (hc : a &&& b = c) : lN a &&& lN b = lN c := by
  subst hc
  have h : UInt64.ofNat a &&& UInt64.ofNat b = UInt64.ofNat (a &&& b) := UInt64.toNat_inj.mp (by rw [UInt64.toNat_and, u_tn ha, u_tn hb, u_tn (Nat.and_lt_two_pow a hb)])
  have h2 := congrArg UInt64.toInt64 h
  exact h2
theorem g_and1 {a : Nat} (ha : a < 2 ^ 64) : lN a &&& 1 = lN (a % 2) := g_and (b := 1) ha (by decide) (Nat.and_two_pow_sub_one_eq_mod a 1)
theorem g_mask {a s p : Nat} (hp : 2 ^ s = p) (hs : s < 64) (ha : a < 2 ^ 64) : lN a &&& lN (p - 1) = lN (a % p) := by
  subst hp
  have := Nat.pow_lt_pow_right (show 1 < 2 by decide) hs
  exact g_and ha (by omega) (Nat.and_two_pow_sub_one_eq_mod a s)
theorem g_or {k p a b : Nat} (hp : 2 ^ k = p) (ha : a < p) (h : b * p + a < 2 ^ 64) : lN (b * p) ||| lN a = lN (b * p + a) := by
  subst hp
  have h1 : b * 2 ^ k ||| a = b * 2 ^ k + a := by rw [← Nat.shiftLeft_eq, Nat.shiftLeft_add_eq_or_of_lt ha]
  have h3 : UInt64.ofNat (b * 2 ^ k) ||| UInt64.ofNat a = UInt64.ofNat (b * 2 ^ k + a) := UInt64.toNat_inj.mp (by rw [UInt64.toNat_or, u_tn (by omega), u_tn (by omega), u_tn h, h1])
  have h2 := congrArg UInt64.toInt64 h3
  exact h2
theorem g_or' {k p a b : Nat} (hp : 2 ^ k = p) (ha : a < p) (h : a + b * p < 2 ^ 64) : lN a ||| lN (b * p) = lN (a + b * p) := by
  rw [Int64.or_comm, g_or hp ha (by omega), Nat.add_comm]
theorem g_ushr {a k p : Nat} {y : UInt64} (hy : y = UInt64.ofNat k) (hk : k < 64) (hp : 2 ^ k = p) (ha : a < 2 ^ 64) : ((lN a).toUInt64 >>> y).toInt64 = lN (a / p) := by
  subst hy hp
  have h : UInt64.ofNat a >>> UInt64.ofNat k = UInt64.ofNat (a / 2 ^ k) := UInt64.toNat_inj.mp (by rw [UInt64.toNat_shiftRight, u_tn ha, u_tn (by omega), u_tn (Nat.lt_of_le_of_lt (Nat.div_le_self _ _) ha), Nat.mod_eq_of_lt hk, Nat.shiftRight_eq_div_pow])
  have h2 := congrArg UInt64.toInt64 h
  exact h2
theorem g_shl {a k p : Nat} {y : Int64} (hy : y.toBitVec.smod 64 = BitVec.ofNat 64 k) (hk : k < 64) (hp : 2 ^ k = p) (ha : a < 2 ^ 64) : lN a <<< y = lN (a * p) := by
  subst hp
  apply Int64.toBitVec_inj.mp
  rw [Int64.toBitVec_shiftLeft, hy]
  apply BitVec.eq_of_toNat_eq
  have hb : (lN a).toBitVec.toNat = a := Nat.mod_eq_of_lt ha
  have hk' : (BitVec.ofNat 64 k).toNat = k := Nat.mod_eq_of_lt (by omega)
  have h : ((lN a).toBitVec <<< BitVec.ofNat 64 k).toNat = (a * 2 ^ k) % 2 ^ 64 := by simp only [BitVec.shiftLeft_eq', BitVec.toNat_shiftLeft, hb, hk', Nat.shiftLeft_eq]
  exact h
end
section
-- what the class's small methods do, in numbers (a loop: how many turns are left first)
/-- byte i of block b, of n blocks with the bytes g -/
def bv (n : Nat) (g : Nat → Nat) (b i : Nat) : Nat := if b < n ∧ i < 64 then g (b * 64 + i) else 0
def bput (n : Nat) (g : Nat → Nat) (b i v : Nat) : Nat → Nat := if b < n ∧ i < 64 then va_up g (b * 64 + i) (v % 256) else g
def num (n : Nat) (g : Nat → Nat) (b : Nat) : Nat → Nat → Nat
  | 0, _ => 0
  | k + 1, i => bv n g b i + 256 * num n g b k (i + 1)
def pnum (n b : Nat) : Nat → (Nat → Nat) → Nat → Nat → Nat → Nat
  | 0, g, _, _ => g
  | k + 1, g, i, v => pnum n b k (bput n g b i (v % 256)) (i + 1) (v / 256)
def wip (n b : Nat) : Nat → (Nat → Nat) → Nat → Nat → Nat
  | 0, g, _ => g
  | k + 1, g, i => wip n b k (bput n g b i 0) (i + 1)
def wipG (n b : Nat) (g : Nat → Nat) : Nat → Nat := wip n b 64 g 0
def ren (n : Nat) : Nat → (Nat → Nat) → Nat → Nat → Nat
  | 0, g, _ => g
  | k + 1, g, b => ren n k (wipG n b g) (b + 1)
def sStep (s : Int64) (v : Nat) : Int64 :=
  (((s ^^^ lN v) <<< ((nI 11).toInt64 &&& 63)) ||| ((s ^^^ lN v).toUInt64 >>> ((nI 53).toInt64.toUInt64 &&& Int64.toUInt64 63)).toInt64) * (-7046029254386353131)
def fol (st : Int64 → Nat → Int64) (v : Nat → Nat) : Nat → Nat → Int64 → Int64
  | 0, _, s => s
  | k + 1, i, s => fol st v k (i + 1) (st s (v i))
theorem fol_s (st : Int64 → Nat → Int64) (v : Nat → Nat) (k i : Nat) (s : Int64) : fol st v (k + 1) i s = fol st v k (i + 1) (st s (v i)) := rfl
theorem fol_0 (st : Int64 → Nat → Int64) (v : Nat → Nat) (i : Nat) (s : Int64) : fol st v 0 i s = s := rfl
def smF (n : Nat) (g : Nat → Nat) (b : Nat) : Nat → Nat → Int64 → Int64 := fol sStep (bv n g b)
theorem smF_s (n : Nat) (g : Nat → Nat) (b k i : Nat) (s : Int64) : smF n g b (k + 1) i s = smF n g b k (i + 1) (sStep s (bv n g b i)) := fol_s sStep (bv n g b) k i s
theorem smF_0 (n : Nat) (g : Nat → Nat) (b i : Nat) (s : Int64) : smF n g b 0 i s = s := fol_0 sStep (bv n g b) i s
def smG (n : Nat) (g : Nat → Nat) (b d : Nat) : Int64 := smF n g b 56 0 (lN d)
def whole (n : Nat) (g : Nat → Nat) (b : Nat) : Bool := decide (lN (num n g b 8 56) = smG n g b b)
-- Uses
def uof (n : Nat) (u : Nat → Nat) (b : Nat) : Nat := if b < n then u b else 0
def umk (n f v : Nat) : Nat → (Nat → Nat) → Nat → Nat → Nat
  | 0, u, _ => u
  | k + 1, u, i => umk n f v k (if f + i < n then va_up u (f + i) v else u) (i + 1)
def utn (x y : Nat) : Nat → (Nat → Nat) → Nat → Nat → Nat
  | 0, u, _ => u
  | k + 1, u, b => utn x y k (if u b = x then va_up u b y else u) (b + 1)
def uhm (x : Nat) (u : Nat → Nat) : Nat → Nat → Nat → Nat
  | 0, _, r => r
  | k + 1, b, r => uhm x u k (b + 1) (if u b = x then r + 1 else r)
def oI : Option Nat → Int32
  | none => -2
  | some v => nI v
def ulr (u : Nat → Nat) (w : Nat) : Nat → Nat → Nat → Option Nat
  | 0, _, _ => none
  | k + 1, b, r => if w ≤ (if u b = 0 then r + 1 else 0) then some (b + 1 - w) else ulr u w k (b + 1) (if u b = 0 then r + 1 else 0)
def uclr (n : Nat) (u : Nat → Nat) : Nat → Nat := umk n 0 3 2 (umk n 0 0 n u 0) 0
-- Queue
def qhol (t : Nat → Nat) (x : Nat) : Nat → Nat → Bool
  | 0, _ => false
  | k + 1, i => if t i = x then true else qhol t x k (i + 1)
def qdr (dn : Nat) (t g : Nat → Nat) : Nat → Nat → (Nat → Nat) → Nat → Nat
  | 0, _, d => d
  | k + 1, i, d => qdr dn t g k (i + 1) (bput dn d (t (i / 64)) (i % 64) (bv 64 g (i / 64) (i % 64)))
-- Table
def tup (f : Nat → Int64) (x : Int64) : Nat → Nat → Nat
  | 0, i => i
  | k + 1, i => if x < f i then i else tup f x k (i + 1)
def tbe (f : Nat → Int64) (x : Int64) : Nat → Nat → Nat
  | 0, i => i
  | k + 1, i => if x ≤ f i then i else tbe f x k (i + 1)
def twi (t : Nat → Nat) (x : Nat) : Nat → Nat → Option Nat
  | 0, _ => none
  | k + 1, i => if t i = x then some i else twi t x k (i + 1)
/-- the places p .. n - 1 go up by one (n - p turns, from the top) -/
def shf {α : Type} : Nat → (Nat → α) → Nat → Nat → α
  | 0, f, _ => f
  | k + 1, f, i => shf k (va_up f i (f (i - 1))) (i - 1)
def tset : Nat → (Nat → Nat) → Nat → Nat → Nat
  | 0, t, _ => t
  | k + 1, t, i => tset k (va_up t i 0) (i + 1)
-- Head
def hfl (n : Nat) (f : Nat → Nat) (i w : Nat) : Nat := if i < n ∧ i < 5 ∧ w < 4 then f (i * 4 + w) else 0
def hap (n : Nat) (f : Nat → Nat) (a b c d : Nat) : Nat → Nat := va_up (va_up (va_up (va_up f (n * 4 + 0) a) (n * 4 + 1) b) (n * 4 + 2) c) (n * 4 + 3) d
/-- x comes to place p of n, those behind it go up -/
def tpl {α : Type} (p n : Nat) (f : Nat → α) (x : α) : Nat → α := va_up (shf (n - p) f n) p x
end
section
-- rows on the small methods' numbers
def uL (x : Int64) : Nat := x.toBitVec.toNat
theorem uL_lt (x : Int64) : uL x < 2 ^ 64 := x.toBitVec.isLt
theorem lN_uL (x : Int64) : lN (uL x) = x := wb_inj (by rw [wb_tb]; simp [uL])
theorem uL_lN {n : Nat} (h : n < 2 ^ 64) : uL (lN n) = n := wb_tn h
theorem lN_inj {a b : Nat} (ha : a < 2 ^ 64) (hb : b < 2 ^ 64) (h : lN a = lN b) : a = b := by rw [← uL_lN ha, h, uL_lN hb]
theorem x_b255 {v : Nat} (h : v < 256) : sb_b v &&& nI 255 = nI v := (sb_byte v h).1
theorem x_b256 (v : Nat) : sb_b v = sb_b (v % 256) := by
  have h : (nI v).toInt8 = (nI (v % 256)).toInt8 := by
    apply Int8.toBitVec_inj.mp
    show (BitVec.ofNat 32 v).signExtend 8 = (BitVec.ofNat 32 (v % 256)).signExtend 8
    rw [BitVec.signExtend_eq_setWidth_of_le _ (by decide), BitVec.signExtend_eq_setWidth_of_le _ (by decide)]
    apply BitVec.eq_of_toNat_eq
    simp only [BitVec.toNat_setWidth, BitVec.toNat_ofNat]
    omega
  unfold sb_b
  rw [h]
theorem x_and255 {v : Nat} (h : v < 2 ^ 64) : lN v &&& lN 255 = lN (v % 256) := wb_mask (k := 8) h (by decide)
theorem x_shr8 {v : Nat} (h : v < 2 ^ 64) : ((lN v).toUInt64 >>> ((nI 8).toInt64.toUInt64 &&& Int64.toUInt64 63)).toInt64 = lN (v / 256) := wb_shr (k := 8) h (by decide)
theorem x_numstep {M v : Nat} (hM : M < 2 ^ 56) (hv : v < 256) : (lN M <<< ((nI 8).toInt64 &&& 63)) ||| lN v = lN (v + 256 * M) := by
  rw [wb_shl M (k := 8) (by decide), wb_or (by omega) (by omega)]
  congr 1
  have h := Nat.two_pow_add_eq_or_of_lt (i := 8) (b := v) (by omega) M
  rw [Nat.mul_comm M (2 ^ 8), ← h]
  omega
theorem x_decm (n : Nat) : nI n + Int32.ofInt (-1) = nI n - nI 1 := by
  rw [Int32.sub_eq_add_neg]
  rfl
theorem x_pred0 {j : Nat} (hj : j < 2 ^ 30) (h : nI j - nI 1 < 0) : j = 0 := by
  rcases Nat.eq_zero_or_pos j with q | q
  · exact q
  · rw [pk_sub q] at h
    exact absurd h (nI_pos (by omega))
theorem x_predP {j : Nat} (hj : j < 2 ^ 30) (h : ¬ nI j - nI 1 < 0) : 0 < j := by
  rcases Nat.eq_zero_or_pos j with q | q
  · subst q
    exact absurd (by decide) h
  · exact q
def xhas (n : Nat) (x y : Int32) : Bool := decide (0 ≤ x.toInt ∧ x.toInt < n ∧ 0 ≤ y.toInt ∧ y.toInt < 64)
theorem xhas_t {n : Nat} {x y : Int32} (hn : n ≤ 64) (c1 : ¬ x < 0) (c9 : ¬ nI n ≤ x) (_ : ¬ nI 64 ≤ x) (c19 : ¬ y < 0) (c25 : ¬ nI 64 ≤ y) : nI 1 = bI (xhas n x y) := by
  have h0 : (0 : Int32).toInt = 0 := rfl
  rw [Int32.lt_iff_toInt_lt, h0] at c1 c19
  rw [Int32.le_iff_toInt_le, nI_toInt (by omega)] at c9 c25
  have h : xhas n x y = true := by
    unfold xhas
    exact decide_eq_true (by omega)
  rw [h]
  rfl
theorem xhas_f {n : Nat} {x y : Int32} (h : x < 0 ∨ nI n ≤ x ∨ nI 64 ≤ x ∨ y < 0 ∨ nI 64 ≤ y) (hn : n ≤ 64) : nI 0 = bI (xhas n x y) := by
  have h0 : (0 : Int32).toInt = 0 := rfl
  rw [Int32.lt_iff_toInt_lt, Int32.lt_iff_toInt_lt, Int32.le_iff_toInt_le, Int32.le_iff_toInt_le, Int32.le_iff_toInt_le, h0, nI_toInt (show n < 2 ^ 31 by omega), nI_toInt (show 64 < 2 ^ 31 by decide)] at h
  have h : xhas n x y = false := by
    unfold xhas
    exact decide_eq_false (by omega)
  rw [h]
  rfl
theorem xhas_nI {n b i : Nat} (_ : n ≤ 64) (hb : b < 2 ^ 31) (hi : i < 2 ^ 31) : xhas n (nI b) (nI i) = decide (b < n ∧ i < 64) := by
  unfold xhas
  rw [nI_toInt hb, nI_toInt hi]
  apply decide_eq_decide.mpr
  omega
theorem xhas_d {n : Nat} {x y : Int32} (hn : n ≤ 64) (h : xhas n x y = true) : ∃ b i : Nat, b < n ∧ i < 64 ∧ x = nI b ∧ y = nI i := by
  have h := of_decide_eq_true h
  obtain ⟨b, hb, rfl⟩ := vp_in_of (n := n) (vp_in_iff.mpr ⟨h.1, h.2.1⟩) (by omega)
  obtain ⟨i, hi, rfl⟩ := vp_in_of (n := 64) (vp_in_iff.mpr ⟨h.2.2.1, h.2.2.2⟩) (by omega)
  exact ⟨b, i, hb, hi, rfl, rfl⟩
theorem bv_lt {n : Nat} {g : Nat → Nat} (hg : ∀ j, g j < 256) {b i : Nat} : bv n g b i < 256 := by
  unfold bv
  split
  · exact hg _
  · decide
theorem va_up_lt {g : Nat → Nat} {M : Nat} (hg : ∀ j, g j < M) {k v : Nat} (hv : v < M) : ∀ j, va_up g k v j < M := by
  intro j
  unfold va_up
  split
  · exact hv
  · exact hg j
theorem bput_lt {n : Nat} {g : Nat → Nat} (hg : ∀ j, g j < 256) {b i v : Nat} : ∀ j, bput n g b i v j < 256 := by
  unfold bput
  split
  · exact va_up_lt hg (Nat.mod_lt _ (by decide))
  · exact hg
theorem pnum_lt {n b : Nat} : ∀ {k : Nat} {g : Nat → Nat} (_ : ∀ j, g j < 256) {i v : Nat}, ∀ j, pnum n b k g i v j < 256
  | 0, _, hg, _, _ => hg
  | _ + 1, _, hg, _, _ => pnum_lt (bput_lt hg)
theorem wip_lt {n b : Nat} : ∀ {k : Nat} {g : Nat → Nat} (_ : ∀ j, g j < 256) {i : Nat}, ∀ j, wip n b k g i j < 256
  | 0, _, hg, _ => hg
  | _ + 1, _, hg, _ => wip_lt (bput_lt hg)
theorem wipG_lt {n b : Nat} {g : Nat → Nat} (hg : ∀ j, g j < 256) : ∀ j, wipG n b g j < 256 := wip_lt hg
theorem num_lt {n : Nat} {g : Nat → Nat} {b : Nat} (hg : ∀ j, g j < 256) : ∀ (k i : Nat), num n g b k i < 256 ^ k
  | 0, _ => by simp [num]
  | k + 1, i => by
    have h1 := num_lt (n := n) (b := b) hg k (i + 1)
    have h2 : bv n g b i < 256 := bv_lt hg
    rw [num, Nat.pow_succ]
    omega
theorem num_56 {M k j : Nat} (h : M < 256 ^ (k - j)) (hj : k - j ≤ 7) : M < 2 ^ 56 := Nat.lt_of_lt_of_le h (Nat.le_trans (Nat.pow_le_pow_right (by decide) hj) (by decide))
def okB (Wf : (Nat → Nat) → va_W) (k0 k1 a0 a1 : Nat) (cB : ClassId) (n : Nat) : Prop :=
  (∀ g, (Wf g)[k0]? = some (a0, .inr (0, [.ref a1, .int (nI n)]))) ∧ (∀ g, (Wf g)[k1]? = some (a1, .inl (cB, 4096, .inl (fun j => sb_b (g j))))) ∧ (∀ g g' : Nat → Nat, (Wf g).set k1 (a1, .inl (cB, 4096, .inl (fun j => sb_b (g' j)))) = Wf g')
end
section
set_option maxHeartbeats 4000000 in
set_option maxRecDepth 100000 in
theorem c_Bl_has {l : Launch} {dC : Nat → ClassId} {dI : Nat → Nat → Nat} {A : Nat → Prop} {tys : List (ClassId × FieldType)} {Wf : (Nat → Nat) → va_W} {k0 k1 t1 a0 a1 : Nat} {cB : ClassId} {n : Nat} (hW : okB Wf k0 k1 a0 a1 cB n) (ht : tys[t1]? = some (cB, .byte)) (hn : n ≤ 64) (g : Nat → Nat) (x y : Int32) : Met l yX0_has (Cond.code yX0_has cX0_has 3 (some .boolean) :: TB) { frames := 0, cells := 0, slots := 0, locals := 0 } (xPre Nst (dC, dI) A tys (Wf g) [.ref a0, .int (x), .int (y)]) (xQi (dC, dI) A (bI (xhas n x y)) (Wf g)) 0 0 A := by
  refine x_ofWz (cc := cX0_has) (maxL := 3) (by decide) rfl (Nat.le_of_ble_eq_true rfl) (x_narZ _) ?_
  intro p e s m args below meth c Q hx hb hml hts hown hK hN hP hD hS hret ls hl
  have hl : lv_has ls 3 [(0, .ref a0), (1, .int (x)), (2, .int (y))] := hl
  have hown : s.vm.findClass RX0 = some m.cls := hown
  have f15 := hts _ (List.mem_cons_of_mem _ tw_107)
  have in_X0 := (fun q hq => List.mem_cons_of_mem _ (inX0 q hq) : ∀ q ∈ wsX00, q ∈ (Cond.code yX0_has cX0_has 3 (some .boolean) :: TB))
  refine lv_iload_n hx hb dX0_has_0 rfl (lv_at hl 1 rfl) ?_
  refine lv_if_lt (tgt := 32) hx hb dX0_has_1 (by decide) (fun c1 => ?_) (fun c1 => ?_)
  · refine lv_iconst (v := nI 0) hx hb dX0_has_32 (by decide) ?_
    exact hret dX0_has_33 (by first | exact xhas_t hn c1 c9 c15 c19 c25 | exact xhas_f (by first | exact Or.inl c1 | exact Or.inr (Or.inl c9) | exact Or.inr (Or.inr (Or.inl c15)) | exact Or.inr (Or.inr (Or.inr (Or.inl c19))) | exact Or.inr (Or.inr (Or.inr (Or.inr c25)))) hn) hP hD hS
  · refine lv_iload_n hx hb dX0_has_4 rfl (lv_at hl 1 rfl) ?_
    refine lv_aload_n hx hb dX0_has_5 rfl (lv_at hl 0 rfl) ?_
    refine va_get (D := (dC, dI)) (ci := 0) (v := .int (nI n)) (C := RX0) (T := TX0) (N := 2) hx hb hts in_X0 hown hK hP k0 (hW.1 _) rfl 1 (by decide) f15 (fun _ h9 => h9) rfl dX0_has_6 ?_
    refine lv_icmp_ge (tgt := 32) hx hb dX0_has_9 (by decide) (fun c9 => ?_) (fun c9 => ?_)
    · refine lv_iconst (v := nI 0) hx hb dX0_has_32 (by decide) ?_
      exact hret dX0_has_33 (by first | exact xhas_t hn c1 c9 c15 c19 c25 | exact xhas_f (by first | exact Or.inl c1 | exact Or.inr (Or.inl c9) | exact Or.inr (Or.inr (Or.inl c15)) | exact Or.inr (Or.inr (Or.inr (Or.inl c19))) | exact Or.inr (Or.inr (Or.inr (Or.inr c25)))) hn) hP hD hS
    · refine lv_iload_n hx hb dX0_has_12 rfl (lv_at hl 1 rfl) ?_
      refine lv_bipush (v := nI 64) hx hb dX0_has_13 (by decide) ?_
      refine lv_icmp_ge (tgt := 32) hx hb dX0_has_15 (by decide) (fun c15 => ?_) (fun c15 => ?_)
      · refine lv_iconst (v := nI 0) hx hb dX0_has_32 (by decide) ?_
        exact hret dX0_has_33 (by first | exact xhas_t hn c1 c9 c15 c19 c25 | exact xhas_f (by first | exact Or.inl c1 | exact Or.inr (Or.inl c9) | exact Or.inr (Or.inr (Or.inl c15)) | exact Or.inr (Or.inr (Or.inr (Or.inl c19))) | exact Or.inr (Or.inr (Or.inr (Or.inr c25)))) hn) hP hD hS
      · refine lv_iload_n hx hb dX0_has_18 rfl (lv_at hl 2 rfl) ?_
        refine lv_if_lt (tgt := 32) hx hb dX0_has_19 (by decide) (fun c19 => ?_) (fun c19 => ?_)
        · refine lv_iconst (v := nI 0) hx hb dX0_has_32 (by decide) ?_
          exact hret dX0_has_33 (by first | exact xhas_t hn c1 c9 c15 c19 c25 | exact xhas_f (by first | exact Or.inl c1 | exact Or.inr (Or.inl c9) | exact Or.inr (Or.inr (Or.inl c15)) | exact Or.inr (Or.inr (Or.inr (Or.inl c19))) | exact Or.inr (Or.inr (Or.inr (Or.inr c25)))) hn) hP hD hS
        · refine lv_iload_n hx hb dX0_has_22 rfl (lv_at hl 2 rfl) ?_
          refine lv_bipush (v := nI 64) hx hb dX0_has_23 (by decide) ?_
          refine lv_icmp_ge (tgt := 32) hx hb dX0_has_25 (by decide) (fun c25 => ?_) (fun c25 => ?_)
          · refine lv_iconst (v := nI 0) hx hb dX0_has_32 (by decide) ?_
            exact hret dX0_has_33 (by first | exact xhas_t hn c1 c9 c15 c19 c25 | exact xhas_f (by first | exact Or.inl c1 | exact Or.inr (Or.inl c9) | exact Or.inr (Or.inr (Or.inl c15)) | exact Or.inr (Or.inr (Or.inr (Or.inl c19))) | exact Or.inr (Or.inr (Or.inr (Or.inr c25)))) hn) hP hD hS
          · refine lv_iconst (v := nI 1) hx hb dX0_has_28 (by decide) ?_
            refine lv_goto (tgt := 33) hx hb dX0_has_29 (by decide) ?_
            exact hret dX0_has_33 (by first | exact xhas_t hn c1 c9 c15 c19 c25 | exact xhas_f (by first | exact Or.inl c1 | exact Or.inr (Or.inl c9) | exact Or.inr (Or.inr (Or.inl c15)) | exact Or.inr (Or.inr (Or.inr (Or.inl c19))) | exact Or.inr (Or.inr (Or.inr (Or.inr c25)))) hn) hP hD hS

set_option maxHeartbeats 4000000 in
set_option maxRecDepth 100000 in
theorem c_Bl_hasN {l : Launch} {dC : Nat → ClassId} {dI : Nat → Nat → Nat} {A : Nat → Prop} {tys : List (ClassId × FieldType)} {Wf : (Nat → Nat) → va_W} {k0 k1 t1 a0 a1 : Nat} {cB : ClassId} {n : Nat} (hW : okB Wf k0 k1 a0 a1 cB n) (ht : tys[t1]? = some (cB, .byte)) (hn : n ≤ 64) (g : Nat → Nat) (b i : Nat) (hb1 : b < 2 ^ 31) (hi1 : i < 2 ^ 31) : Met l yX0_has (Cond.code yX0_has cX0_has 3 (some .boolean) :: TB) { frames := 0, cells := 0, slots := 0, locals := 0 } (xPre Nst (dC, dI) A tys (Wf g) [.ref a0, .int (nI b), .int (nI i)]) (xQi (dC, dI) A (bI (decide (b < n ∧ i < 64))) (Wf g)) 0 0 A := by
  have h := c_Bl_has (l := l) (dC := dC) (dI := dI) (A := A) hW ht hn g (nI b) (nI i)
  rw [xhas_nI hn hb1 hi1] at h
  exact h

set_option maxHeartbeats 4000000 in
set_option maxRecDepth 100000 in
theorem c_Bl_value {l : Launch} {dC : Nat → ClassId} {dI : Nat → Nat → Nat} {A : Nat → Prop} {tys : List (ClassId × FieldType)} {Wf : (Nat → Nat) → va_W} {k0 k1 t1 a0 a1 : Nat} {cB : ClassId} {n : Nat} (hW : okB Wf k0 k1 a0 a1 cB n) (ht : tys[t1]? = some (cB, .byte)) (hn : n ≤ 64) (g : Nat → Nat) (hg : ∀ j, g j < 256) (b i : Nat) (hb1 : b < 2 ^ 31) (hi1 : i < 2 ^ 31) : Met l yX0_value (Cond.code yX0_value cX0_value 3 (some .int) :: TB) { frames := 1, cells := 0, slots := 0, locals := 22 } (xPre Nst (dC, dI) A tys (Wf g) [.ref a0, .int (nI b), .int (nI i)]) (xQi (dC, dI) A (nI (bv n g b i)) (Wf g)) 0 0 A := by
  refine x_ofWi (cc := cX0_value) (maxL := 3) (by decide) rfl (Nat.le_of_ble_eq_true rfl) ?_
  intro p e s m args below meth c Q hx hb hml hts hown hK hN hP hD hS hret ls hl
  have hl : lv_has ls 3 [(0, .ref a0), (1, .int (nI b)), (2, .int (nI i))] := hl
  have hown : s.vm.findClass RX0 = some m.cls := hown
  have f9 := hts _ (List.mem_cons_of_mem _ tw_106)
  have in_X0 := (fun q hq => List.mem_cons_of_mem _ (inX0 q hq) : ∀ q ∈ wsX00, q ∈ (Cond.code yX0_value cX0_value 3 (some .int) :: TB))
  refine lv_aload_n hx hb dX0_value_0 rfl (lv_at hl 0 rfl) ?_
  refine lv_iload_n hx hb dX0_value_1 rfl (lv_at hl 1 rfl) ?_
  refine lv_iload_n hx hb dX0_value_2 rfl (lv_at hl 2 rfl) ?_
  refine x_calli (va_runV (As := [.int (nI b), .int (nI i)]) (rest := []) ⟨hx, hb, hml, hown, hts⟩ (c_Bl_hasN hW ht hn g b i (by omega) (by omega)) (cwV 2 hts (tbV tw_258 tw_260 tw_6 tw_85 tw_261) rfl rfl rfl (by decide +kernel) ⟨Nat.le_of_ble_eq_true rfl, Nat.le_of_ble_eq_true rfl⟩) ⟨x_blind, va_recv hK hP (ci := 0) (q0 := k0) rfl (hW.1 _), x_pre hK hP hD hN⟩ rfl rfl hl.1 rfl (lv_room (Nat.le_of_ble_eq_true rfl)) dX0_value_3 ⟨Nat.zero_le _, Nat.zero_le _⟩) hS (fun H locs hP hD hS => ?_)
  have hP : va_P (dC, dI) vwCl (Wf g) H := hP
  have hD : va_D A (Wf g) := hD
  refine x_if_eq_b (tgt := 27) hx hb dX0_value_6 (by decide) (fun c6 => ?_) (fun c6 => ?_)
  · have c6 := of_decide_eq_false c6
    refine lv_iconst (v := nI 0) hx hb dX0_value_27 (by decide) ?_
    exact hret dX0_value_28 (by simp [bv, c6]) hP hD hS
  · have c6 := of_decide_eq_true c6
    refine lv_aload_n hx hb dX0_value_9 rfl (lv_at hl 0 rfl) ?_
    refine va_get (D := (dC, dI)) (ci := 0) (v := .ref a1) (C := RX0) (T := TX0) (N := 2) hx hb hts in_X0 hown hK hP k0 (hW.1 _) rfl 0 (by decide) f9 (fun _ h9 => h9) rfl dX0_value_10 ?_
    refine lv_iload_n hx hb dX0_value_13 rfl (lv_at hl 1 rfl) ?_
    refine lv_bipush (v := nI 64) hx hb dX0_value_14 (by decide) ?_
    refine x_imul hx hb dX0_value_16 ?_
    refine lv_iload_n hx hb dX0_value_17 rfl (lv_at hl 2 rfl) ?_
    refine x_iadd hx hb dX0_value_18 ?_
    refine x_bald hx hb hK hP k1 t1 (hW.2.1 _) ht (by omega) (by decide) dX0_value_19 ?_
    refine lv_sipush (v := nI 255) hx hb dX0_value_20 (by decide) ?_
    refine lv_iand hx hb dX0_value_23 ?_
    refine x_top (y := nI (g (b * 64 + i))) (x_b255 (hg _)) ?_
    refine lv_goto (tgt := 28) hx hb dX0_value_24 (by decide) ?_
    exact hret dX0_value_28 (by simp [bv, c6]) hP hD hS

set_option maxHeartbeats 4000000 in
set_option maxRecDepth 100000 in
theorem c_Bl_put {l : Launch} {dC : Nat → ClassId} {dI : Nat → Nat → Nat} {A : Nat → Prop} {tys : List (ClassId × FieldType)} {Wf : (Nat → Nat) → va_W} {k0 k1 t1 a0 a1 : Nat} {cB : ClassId} {n : Nat} (hW : okB Wf k0 k1 a0 a1 cB n) (ht : tys[t1]? = some (cB, .byte)) (hn : n ≤ 64) (g : Nat → Nat) (b i v : Nat) (hb1 : b < 2 ^ 31) (hi1 : i < 2 ^ 31) (hv1 : v < 2 ^ 31) : Met l yX0_put (Cond.code yX0_put cX0_put 4 none :: TB) { frames := 1, cells := 0, slots := 0, locals := 22 } (xPre Nst (dC, dI) A tys (Wf g) [.ref a0, .int (nI b), .int (nI i), .int (nI v)]) (xQv (dC, dI) A (Wf (bput n g b i v))) 0 0 A := by
  refine x_ofWv (cc := cX0_put) (maxL := 4) (by decide) rfl (Nat.le_of_ble_eq_true rfl) ?_
  intro p e s m args below meth c Q hx hb hml hts hown hK hN hP hD hS hret ls hl
  have hl : lv_has ls 4 [(0, .ref a0), (1, .int (nI b)), (2, .int (nI i)), (3, .int (nI v))] := hl
  have hown : s.vm.findClass RX0 = some m.cls := hown
  have f9 := hts _ (List.mem_cons_of_mem _ tw_106)
  have in_X0 := (fun q hq => List.mem_cons_of_mem _ (inX0 q hq) : ∀ q ∈ wsX00, q ∈ (Cond.code yX0_put cX0_put 4 none :: TB))
  refine lv_aload_n hx hb dX0_put_0 rfl (lv_at hl 0 rfl) ?_
  refine lv_iload_n hx hb dX0_put_1 rfl (lv_at hl 1 rfl) ?_
  refine lv_iload_n hx hb dX0_put_2 rfl (lv_at hl 2 rfl) ?_
  refine x_calli (va_runV (As := [.int (nI b), .int (nI i)]) (rest := []) ⟨hx, hb, hml, hown, hts⟩ (c_Bl_hasN hW ht hn g b i (by omega) (by omega)) (cwV 2 hts (tbV tw_258 tw_260 tw_6 tw_85 tw_261) rfl rfl rfl (by decide +kernel) ⟨Nat.le_of_ble_eq_true rfl, Nat.le_of_ble_eq_true rfl⟩) ⟨x_blind, va_recv hK hP (ci := 0) (q0 := k0) rfl (hW.1 _), x_pre hK hP hD hN⟩ rfl rfl hl.1 rfl (lv_room (Nat.le_of_ble_eq_true rfl)) dX0_put_3 ⟨Nat.zero_le _, Nat.zero_le _⟩) hS (fun H locs hP hD hS => ?_)
  have hP : va_P (dC, dI) vwCl (Wf g) H := hP
  have hD : va_D A (Wf g) := hD
  refine x_if_eq_b (tgt := 22) hx hb dX0_put_6 (by decide) (fun c6 => ?_) (fun c6 => ?_)
  · have c6 := of_decide_eq_false c6
    have e1 : g = (bput n g b i v) := by simp [bput, c6]
    have h9 : Wf g = Wf (bput n g b i v) := by rw [← e1]
    have hP := x_wP h9 hP
    have hD := x_wD h9 hD
    exact hret dX0_put_22 hP hD hS
  · have c6 := of_decide_eq_true c6
    refine lv_aload_n hx hb dX0_put_9 rfl (lv_at hl 0 rfl) ?_
    refine va_get (D := (dC, dI)) (ci := 0) (v := .ref a1) (C := RX0) (T := TX0) (N := 2) hx hb hts in_X0 hown hK hP k0 (hW.1 _) rfl 0 (by decide) f9 (fun _ h9 => h9) rfl dX0_put_10 ?_
    refine lv_iload_n hx hb dX0_put_13 rfl (lv_at hl 1 rfl) ?_
    refine lv_bipush (v := nI 64) hx hb dX0_put_14 (by decide) ?_
    refine x_imul hx hb dX0_put_16 ?_
    refine lv_iload_n hx hb dX0_put_17 rfl (lv_at hl 2 rfl) ?_
    refine x_iadd hx hb dX0_put_18 ?_
    refine lv_iload_n hx hb dX0_put_19 rfl (lv_at hl 3 rfl) ?_
    refine lv_i2b (v := sb_b v) hx hb dX0_put_20 rfl ?_
    refine x_top (y := sb_b (v % 256)) (x_b256 v) ?_
    refine x_bast hx hb hK hP hD hS k1 t1 (hW.2.1 _) ht (by omega) (by decide) dX0_put_21 (fun H locs hP hD hS => ?_)
    have hP := x_wP (hW.2.2 _ (va_up g ((b * 64) + i) (v % 256))) hP
    have hD := x_wD (hW.2.2 _ (va_up g ((b * 64) + i) (v % 256))) hD
    have hP : va_P (dC, dI) vwCl (Wf (va_up g ((b * 64) + i) (v % 256))) H := hP
    have hD : va_D A (Wf (va_up g ((b * 64) + i) (v % 256))) := hD
    have e2 : (va_up g ((b * 64) + i) (v % 256)) = (bput n g b i v) := by simp [bput, c6]
    have h9 : Wf (va_up g ((b * 64) + i) (v % 256)) = Wf (bput n g b i v) := by rw [e2]
    have hP := x_wP h9 hP
    have hD := x_wD h9 hD
    exact hret dX0_put_22 hP hD hS

set_option maxHeartbeats 4000000 in
set_option maxRecDepth 100000 in
theorem c_Bl_number {l : Launch} {dC : Nat → ClassId} {dI : Nat → Nat → Nat} {A : Nat → Prop} {tys : List (ClassId × FieldType)} {Wf : (Nat → Nat) → va_W} {k0 k1 t1 a0 a1 : Nat} {cB : ClassId} {n : Nat} (hW : okB Wf k0 k1 a0 a1 cB n) (ht : tys[t1]? = some (cB, .byte)) (hn : n ≤ 64) (g : Nat → Nat) (hg : ∀ j, g j < 256) (b i k : Nat) (hb1 : b < 2 ^ 31) (hi1 : i + k < 2 ^ 31) (hk1 : k ≤ 8) : Met l yX0_number (Cond.code yX0_number cX0_number 7 (some .long) :: TB) { frames := 2, cells := 0, slots := 0, locals := 44 } (xPre Nst (dC, dI) A tys (Wf g) [.ref a0, .int (nI b), .int (nI i), .int (nI k)]) (xQl (dC, dI) A (lN (num n g b k i)) (Wf g)) 0 0 A := by
  refine x_ofWl (cc := cX0_number) (maxL := 7) (by decide) rfl (Nat.le_of_ble_eq_true rfl) ?_
  intro p e s m args below meth c Q hx hb hml hts hown hK hN hP hD hS hret ls hl
  have hl : lv_has ls 7 [(0, .ref a0), (1, .int (nI b)), (2, .int (nI i)), (3, .int (nI k))] := hl
  have hown : s.vm.findClass RX0 = some m.cls := hown
  refine lv_lconst (v := lN 0) hx hb dX0_number_0 rfl ?_
  refine lv_lstore (lv' := [(4, .long (lN 0)), (0, .ref a0), (1, .int (nI b)), (2, .int (nI i)), (3, .int (nI k))]) hx hb dX0_number_1 hl (by decide) rfl (fun ls hl => ?_)
  refine lv_iload_n hx hb dX0_number_3 rfl (lv_at hl 4 rfl) ?_
  refine lv_iconst (v := nI 1) hx hb dX0_number_4 (by decide) ?_
  refine lv_isub hx hb dX0_number_5 ?_
  refine lv_istore (lv' := [(6, .int ((nI k - nI 1))), (4, .long (lN 0)), (0, .ref a0), (1, .int (nI b)), (2, .int (nI i)), (3, .int (nI k))]) hx hb dX0_number_6 hl (by decide) rfl (fun ls hl => ?_)
  have L8 : ∀ (fu8 : Nat) (j : Nat), (j < fu8) → (j ≤ k) → ∀ (H : Heap) (locs : List Loc), va_P (dC, dI) vwCl (Wf g) H → va_D A (Wf g) → va_S A s.heap H locs → ∀ (ls : Array Slot), lv_has ls 7 [(0, .ref a0), (1, .int (nI b)), (2, .int (nI i)), (3, .int (nI k)), (4, .long (lN (num n g b (k - j) (i + j)))), (6, .int ((nI j - nI 1)))] → W p l e { frames := 2, cells := 0, slots := 0, locals := 44 } s m args below meth c H locs 0 0 Q (F0 m 8 ls []) := by
    intro fu8
    induction fu8 with
    | zero => intro j hm; exact absurd hm (Nat.not_lt_zero _)
    | succ fu8 ih8 =>
      intro j hm i8_0 H locs hP hD hS ls hl
      refine lv_iload hx hb dX0_number_8 (lv_at hl 5 rfl) ?_
      refine lv_if_lt (tgt := 37) hx hb dX0_number_10 (by decide) (fun c10 => ?_) (fun c10 => ?_)
      · have c10 : j = 0 := x_pred0 (by omega) c10
        subst c10
        refine lv_lload hx hb dX0_number_37 (lv_at hl 4 rfl) ?_
        exact hret dX0_number_39 (by simp) hP hD hS
      · have c10 : 0 < j := x_predP (by omega) c10
        have e6 : nI j - nI 1 = nI (j - 1) := pk_sub (by omega)
        rw [e6] at hl
        have hM := num_lt (n := n) (g := g) (b := b) hg (k - j) (i + j)
        refine lv_lload hx hb dX0_number_13 (lv_at hl 4 rfl) ?_
        refine lv_bipush (v := nI 8) hx hb dX0_number_15 (by decide) ?_
        refine lv_lshl hx hb dX0_number_17 rfl ?_
        refine lv_aload_n hx hb dX0_number_18 rfl (lv_at hl 0 rfl) ?_
        refine lv_iload_n hx hb dX0_number_19 rfl (lv_at hl 1 rfl) ?_
        refine lv_iload_n hx hb dX0_number_20 rfl (lv_at hl 2 rfl) ?_
        refine lv_iload hx hb dX0_number_21 (lv_at hl 5 rfl) ?_
        refine x_iadd hx hb dX0_number_23 ?_
        refine x_calli (va_runV (As := [.int (nI b), .int (nI (i + (j - 1)))]) (rest := [.long (((lN (num n g b (k - j) (i + j))) <<< ((nI 8).toInt64 &&& 63)))]) ⟨hx, hb, hml, hown, hts⟩ (c_Bl_value hW ht hn g hg b (i + (j - 1)) (by omega) (by omega)) (cwV 2 hts (tbV tw_343 tw_345 tw_25 tw_85 tw_346) rfl rfl rfl (by decide +kernel) ⟨Nat.le_of_ble_eq_true rfl, Nat.le_of_ble_eq_true rfl⟩) ⟨x_blind, va_recv hK hP (ci := 0) (q0 := k0) rfl (hW.1 _), x_pre hK hP hD hN⟩ rfl rfl hl.1 rfl (lv_room (Nat.le_of_ble_eq_true rfl)) dX0_number_24 ⟨Nat.zero_le _, Nat.zero_le _⟩) hS (fun H locs hP hD hS => ?_)
        have hP : va_P (dC, dI) vwCl (Wf g) H := hP
        have hD : va_D A (Wf g) := hD
        have hv24 : bv n g b (i + (j - 1)) < 256 := bv_lt hg
        refine lv_i2l (v := lN (bv n g b (i + (j - 1)))) hx hb dX0_number_27 (nI_l (by omega)) ?_
        refine lv_lor hx hb dX0_number_28 ?_
        refine x_topl (y := lN (bv n g b (i + (j - 1)) + 256 * num n g b (k - j) (i + j))) (x_numstep (num_56 hM (by omega)) hv24) ?_
        refine lv_lstore (lv' := [(4, .long (lN (bv n g b (i + (j - 1)) + 256 * num n g b (k - j) (i + j)))), (0, .ref a0), (1, .int (nI b)), (2, .int (nI i)), (3, .int (nI k)), (6, .int (nI (j - 1)))]) hx hb dX0_number_29 hl (by decide) rfl (fun ls hl => ?_)
        refine lv_iinc (v := (nI (j - 1) - nI 1)) (lv' := [(6, .int ((nI (j - 1) - nI 1))), (4, .long (lN (bv n g b (i + (j - 1)) + 256 * num n g b (k - j) (i + j)))), (0, .ref a0), (1, .int (nI b)), (2, .int (nI i)), (3, .int (nI k))]) hx hb dX0_number_31 hl (k := 5) rfl (x_decm _) (by decide) rfl (fun ls hl => ?_)
        refine lv_goto (tgt := 8) hx hb dX0_number_34 (by decide) ?_
        have e1 : (bv n g b (i + (j - 1)) + 256 * num n g b (k - j) (i + j)) = (num n g b (k - (j - 1)) (i + (j - 1))) := by rw [show k - (j - 1) = (k - j) + 1 by omega, num, show i + (j - 1) + 1 = i + j by omega]
        exact ih8 (j - 1) (by omega) (by omega) _ _ hP hD hS ls (x_lvc (l1 := [(0, .ref a0), (1, .int (nI b)), (2, .int (nI i)), (3, .int (nI k)), (4, .long (lN (bv n g b (i + (j - 1)) + 256 * num n g b (k - j) (i + j)))), (6, .int ((nI (j - 1) - nI 1)))]) (by rw [e1]) (lv_sub hl [2, 3, 4, 5, 1, 0] rfl))
  have e2 : 0 = (num n g b (k - k) (i + k)) := by rw [show k - k = 0 by omega]; rfl
  exact L8 (k + 1) k (by omega) (by omega) _ _ hP hD hS ls (x_lvc (l1 := [(0, .ref a0), (1, .int (nI b)), (2, .int (nI i)), (3, .int (nI k)), (4, .long (lN 0)), (6, .int ((nI k - nI 1)))]) (by rw [← e2]) (lv_sub hl [2, 3, 4, 5, 1, 0] rfl))

set_option maxHeartbeats 4000000 in
set_option maxRecDepth 100000 in
theorem c_Bl_putNumber {l : Launch} {dC : Nat → ClassId} {dI : Nat → Nat → Nat} {A : Nat → Prop} {tys : List (ClassId × FieldType)} {Wf : (Nat → Nat) → va_W} {k0 k1 t1 a0 a1 : Nat} {cB : ClassId} {n : Nat} (hW : okB Wf k0 k1 a0 a1 cB n) (ht : tys[t1]? = some (cB, .byte)) (hn : n ≤ 64) (g : Nat → Nat) (hg : ∀ j, g j < 256) (b i k v : Nat) (hb1 : b < 2 ^ 31) (hi1 : i + k < 2 ^ 31) (hv1 : v < 2 ^ 64) : Met l yX0_putNumber (Cond.code yX0_putNumber cX0_putNumber 9 none :: TB) { frames := 2, cells := 0, slots := 0, locals := 45 } (xPre Nst (dC, dI) A tys (Wf g) [.ref a0, .int (nI b), .int (nI i), .int (nI k), .long (lN v)]) (xQv (dC, dI) A (Wf (pnum n b k g i v))) 0 0 A := by
  refine x_ofWv (cc := cX0_putNumber) (maxL := 9) (by decide) rfl (Nat.le_of_ble_eq_true rfl) ?_
  intro p e s m args below meth c Q hx hb hml hts hown hK hN hP hD hS hret ls hl
  have hl : lv_has ls 9 [(0, .ref a0), (1, .int (nI b)), (2, .int (nI i)), (3, .int (nI k)), (4, .long (lN v))] := hl
  have hown : s.vm.findClass RX0 = some m.cls := hown
  refine lv_lload hx hb dX0_putNumber_0 (lv_at hl 4 rfl) ?_
  refine lv_lstore (lv' := [(6, .long (lN v)), (0, .ref a0), (1, .int (nI b)), (2, .int (nI i)), (3, .int (nI k)), (4, .long (lN v))]) hx hb dX0_putNumber_2 hl (by decide) rfl (fun ls hl => ?_)
  refine lv_iconst (v := nI 0) hx hb dX0_putNumber_4 (by decide) ?_
  refine lv_istore (lv' := [(8, .int (nI 0)), (6, .long (lN v)), (0, .ref a0), (1, .int (nI b)), (2, .int (nI i)), (3, .int (nI k)), (4, .long (lN v))]) hx hb dX0_putNumber_5 hl (by decide) rfl (fun ls hl => ?_)
  have L7 : ∀ (fu7 : Nat) (j : Nat) (g' : Nat → Nat) (v' : Nat), (k - j < fu7) → (j ≤ k) → (v' < 2 ^ 64) → (∀ q, g' q < 256) → (pnum n b (k - j) g' (i + j) v' = pnum n b k g i v) → ∀ (H : Heap) (locs : List Loc), va_P (dC, dI) vwCl (Wf g') H → va_D A (Wf g') → va_S A s.heap H locs → ∀ (ls : Array Slot), lv_has ls 9 [(0, .ref a0), (1, .int (nI b)), (2, .int (nI i)), (3, .int (nI k)), (4, .long (lN v)), (6, .long (lN v')), (8, .int (nI j))] → W p l e { frames := 2, cells := 0, slots := 0, locals := 45 } s m args below meth c H locs 0 0 Q (F0 m 7 ls []) := by
    intro fu7
    induction fu7 with
    | zero => intro j g' v' hm; exact absurd hm (Nat.not_lt_zero _)
    | succ fu7 ih7 =>
      intro j g' v' hm i7_0 i7_1 i7_2 i7_3 H locs hP hD hS ls hl
      refine lv_iload hx hb dX0_putNumber_7 (lv_at hl 6 rfl) ?_
      refine lv_iload_n hx hb dX0_putNumber_9 rfl (lv_at hl 3 rfl) ?_
      refine x_icmp_ge (tgt := 42) hx hb dX0_putNumber_10 (by decide) (by omega) (by omega) (fun c10 => ?_) (fun c10 => ?_)
      · have e1 : g' = (pnum n b k g i v) := by have h := i7_3; rw [show k - j = 0 by omega] at h; exact h
        have h9 : Wf g' = Wf (pnum n b k g i v) := by rw [← e1]
        have hP := x_wP h9 hP
        have hD := x_wD h9 hD
        exact hret dX0_putNumber_42 hP hD hS
      · refine lv_aload_n hx hb dX0_putNumber_13 rfl (lv_at hl 0 rfl) ?_
        refine lv_iload_n hx hb dX0_putNumber_14 rfl (lv_at hl 1 rfl) ?_
        refine lv_iload_n hx hb dX0_putNumber_15 rfl (lv_at hl 2 rfl) ?_
        refine lv_iload hx hb dX0_putNumber_16 (lv_at hl 6 rfl) ?_
        refine x_iadd hx hb dX0_putNumber_18 ?_
        refine lv_lload hx hb dX0_putNumber_19 (lv_at hl 5 rfl) ?_
        refine lv_ldc2 (v := lN 255) hx hb hown (hts _ (List.mem_cons_of_mem _ tw_310)) dX0_putNumber_21 ?_
        refine lv_land hx hb dX0_putNumber_24 ?_
        refine x_topl (y := lN (v' % 256)) (x_and255 i7_1) ?_
        refine lv_l2i (v := nI (v' % 256)) hx hb dX0_putNumber_25 (lN_i _) ?_
        refine x_callv (va_runV (As := [.int (nI b), .int (nI (i + j)), .int (nI (v' % 256))]) (rest := []) ⟨hx, hb, hml, hown, hts⟩ (c_Bl_put hW ht hn g' b (i + j) (v' % 256) (by omega) (by omega) (by omega)) (cwV 3 hts (tbV tw_254 tw_256 tw_5 tw_85 tw_257) rfl rfl rfl (by decide +kernel) ⟨Nat.le_of_ble_eq_true rfl, Nat.le_of_ble_eq_true rfl⟩) ⟨x_blind, va_recv hK hP (ci := 0) (q0 := k0) rfl (hW.1 _), x_pre hK hP hD hN⟩ rfl rfl hl.1 rfl (lv_room (Nat.le_of_ble_eq_true rfl)) dX0_putNumber_26 ⟨Nat.zero_le _, Nat.zero_le _⟩) hS (fun H locs hP hD hS => ?_)
        have hP : va_P (dC, dI) vwCl (Wf (bput n g' b (i + j) (v' % 256))) H := hP
        have hD : va_D A (Wf (bput n g' b (i + j) (v' % 256))) := hD
        refine lv_lload hx hb dX0_putNumber_29 (lv_at hl 5 rfl) ?_
        refine lv_bipush (v := nI 8) hx hb dX0_putNumber_31 (by decide) ?_
        refine lv_lushr hx hb dX0_putNumber_33 rfl ?_
        refine x_topl (y := lN (v' / 256)) (x_shr8 i7_1) ?_
        refine lv_lstore (lv' := [(6, .long (lN (v' / 256))), (0, .ref a0), (1, .int (nI b)), (2, .int (nI i)), (3, .int (nI k)), (4, .long (lN v)), (8, .int (nI j))]) hx hb dX0_putNumber_34 hl (by decide) rfl (fun ls hl => ?_)
        refine lv_iinc (v := nI (j + 1)) (lv' := [(8, .int (nI (j + 1))), (6, .long (lN (v' / 256))), (0, .ref a0), (1, .int (nI b)), (2, .int (nI i)), (3, .int (nI k)), (4, .long (lN v))]) hx hb dX0_putNumber_36 hl (k := 6) rfl (x_inc _) (by decide) rfl (fun ls hl => ?_)
        refine lv_goto (tgt := 7) hx hb dX0_putNumber_39 (by decide) ?_
        exact ih7 (j + 1) (bput n g' b (i + j) (v' % 256)) (v' / 256) (by omega) (by omega) (by omega) (by exact bput_lt i7_2) (by have h := i7_3; rw [show k - j = (k - (j + 1)) + 1 by omega, pnum] at h; rw [show i + (j + 1) = i + j + 1 by omega]; exact h) _ _ hP hD hS ls (lv_sub hl [2, 3, 4, 5, 6, 1, 0] rfl)
  exact L7 (k - 0 + 1) 0 g v (by omega) (by omega) (by omega) (by exact hg) (by rfl) _ _ hP hD hS ls (lv_sub hl [2, 3, 4, 5, 6, 1, 0] rfl)

set_option maxHeartbeats 4000000 in
set_option maxRecDepth 100000 in
theorem c_Bl_putLong {l : Launch} {dC : Nat → ClassId} {dI : Nat → Nat → Nat} {A : Nat → Prop} {tys : List (ClassId × FieldType)} {Wf : (Nat → Nat) → va_W} {k0 k1 t1 a0 a1 : Nat} {cB : ClassId} {n : Nat} (hW : okB Wf k0 k1 a0 a1 cB n) (ht : tys[t1]? = some (cB, .byte)) (hn : n ≤ 64) (g : Nat → Nat) (hg : ∀ j, g j < 256) (b i k : Nat) (x : Int64) (hb1 : b < 2 ^ 31) (hi1 : i + k < 2 ^ 31) : Met l yX0_putNumber (Cond.code yX0_putNumber cX0_putNumber 9 none :: TB) { frames := 2, cells := 0, slots := 0, locals := 45 } (xPre Nst (dC, dI) A tys (Wf g) [.ref a0, .int (nI b), .int (nI i), .int (nI k), .long x]) (xQv (dC, dI) A (Wf (pnum n b k g i (uL x)))) 0 0 A := by
  have h := c_Bl_putNumber (l := l) (dC := dC) (dI := dI) (A := A) hW ht hn g hg b i k (uL x) hb1 hi1 (uL_lt x)
  rw [lN_uL] at h
  exact h

set_option maxHeartbeats 4000000 in
set_option maxRecDepth 100000 in
theorem c_Bl_wipe {l : Launch} {dC : Nat → ClassId} {dI : Nat → Nat → Nat} {A : Nat → Prop} {tys : List (ClassId × FieldType)} {Wf : (Nat → Nat) → va_W} {k0 k1 t1 a0 a1 : Nat} {cB : ClassId} {n : Nat} (hW : okB Wf k0 k1 a0 a1 cB n) (ht : tys[t1]? = some (cB, .byte)) (hn : n ≤ 64) (g : Nat → Nat) (hg : ∀ j, g j < 256) (b : Nat) (hb1 : b < 2 ^ 31) : Met l yX0_wipe (Cond.code yX0_wipe cX0_wipe 3 none :: TB) { frames := 2, cells := 0, slots := 0, locals := 45 } (xPre Nst (dC, dI) A tys (Wf g) [.ref a0, .int (nI b)]) (xQv (dC, dI) A (Wf (wipG n b g))) 0 0 A := by
  refine x_ofWv (cc := cX0_wipe) (maxL := 3) (by decide) rfl (Nat.le_of_ble_eq_true rfl) ?_
  intro p e s m args below meth c Q hx hb hml hts hown hK hN hP hD hS hret ls hl
  have hl : lv_has ls 3 [(0, .ref a0), (1, .int (nI b))] := hl
  have hown : s.vm.findClass RX0 = some m.cls := hown
  refine lv_iconst (v := nI 0) hx hb dX0_wipe_0 (by decide) ?_
  refine lv_istore_n (lv' := [(2, .int (nI 0)), (0, .ref a0), (1, .int (nI b))]) hx hb dX0_wipe_1 rfl hl (by decide) rfl (fun ls hl => ?_)
  have L2 : ∀ (fu2 : Nat) (j : Nat) (g' : Nat → Nat), (64 - j < fu2) → (j ≤ 64) → (∀ q, g' q < 256) → (wip n b (64 - j) g' j = wip n b 64 g 0) → ∀ (H : Heap) (locs : List Loc), va_P (dC, dI) vwCl (Wf g') H → va_D A (Wf g') → va_S A s.heap H locs → ∀ (ls : Array Slot), lv_has ls 3 [(0, .ref a0), (1, .int (nI b)), (2, .int (nI j))] → W p l e { frames := 2, cells := 0, slots := 0, locals := 45 } s m args below meth c H locs 0 0 Q (F0 m 2 ls []) := by
    intro fu2
    induction fu2 with
    | zero => intro j g' hm; exact absurd hm (Nat.not_lt_zero _)
    | succ fu2 ih2 =>
      intro j g' hm i2_0 i2_1 i2_2 H locs hP hD hS ls hl
      refine lv_iload_n hx hb dX0_wipe_2 rfl (lv_at hl 2 rfl) ?_
      refine lv_bipush (v := nI 64) hx hb dX0_wipe_3 (by decide) ?_
      refine x_icmp_ge (tgt := 21) hx hb dX0_wipe_5 (by decide) (by omega) (by omega) (fun c5 => ?_) (fun c5 => ?_)
      · have e1 : g' = (wipG n b g) := by have h := i2_2; rw [show 64 - j = 0 by omega] at h; exact h
        have h9 : Wf g' = Wf (wipG n b g) := by rw [← e1]
        have hP := x_wP h9 hP
        have hD := x_wD h9 hD
        exact hret dX0_wipe_21 hP hD hS
      · refine lv_aload_n hx hb dX0_wipe_8 rfl (lv_at hl 0 rfl) ?_
        refine lv_iload_n hx hb dX0_wipe_9 rfl (lv_at hl 1 rfl) ?_
        refine lv_iload_n hx hb dX0_wipe_10 rfl (lv_at hl 2 rfl) ?_
        refine lv_iconst (v := nI 0) hx hb dX0_wipe_11 (by decide) ?_
        refine x_callv (va_runV (As := [.int (nI b), .int (nI j), .int (nI 0)]) (rest := []) ⟨hx, hb, hml, hown, hts⟩ (c_Bl_put hW ht hn g' b j 0 (by omega) (by omega) (by omega)) (cwV 3 hts (tbV tw_254 tw_256 tw_5 tw_85 tw_257) rfl rfl rfl (by decide +kernel) ⟨Nat.le_of_ble_eq_true rfl, Nat.le_of_ble_eq_true rfl⟩) ⟨x_blind, va_recv hK hP (ci := 0) (q0 := k0) rfl (hW.1 _), x_pre hK hP hD hN⟩ rfl rfl hl.1 rfl (lv_room (Nat.le_of_ble_eq_true rfl)) dX0_wipe_12 ⟨Nat.zero_le _, Nat.zero_le _⟩) hS (fun H locs hP hD hS => ?_)
        have hP : va_P (dC, dI) vwCl (Wf (bput n g' b j 0)) H := hP
        have hD : va_D A (Wf (bput n g' b j 0)) := hD
        refine lv_iinc (v := nI (j + 1)) (lv' := [(2, .int (nI (j + 1))), (0, .ref a0), (1, .int (nI b))]) hx hb dX0_wipe_15 hl (k := 2) rfl (x_inc _) (by decide) rfl (fun ls hl => ?_)
        refine lv_goto (tgt := 2) hx hb dX0_wipe_18 (by decide) ?_
        exact ih2 (j + 1) (bput n g' b j 0) (by omega) (by omega) (by exact bput_lt i2_1) (by have h := i2_2; rw [show 64 - j = (64 - (j + 1)) + 1 by omega, wip] at h; exact h) _ _ hP hD hS ls (lv_sub hl [1, 2, 0] rfl)
  exact L2 (64 - 0 + 1) 0 g (by omega) (by omega) (by exact hg) (by rfl) _ _ hP hD hS ls (lv_sub hl [1, 2, 0] rfl)

set_option maxHeartbeats 4000000 in
set_option maxRecDepth 100000 in
theorem c_Bl_sum {l : Launch} {dC : Nat → ClassId} {dI : Nat → Nat → Nat} {A : Nat → Prop} {tys : List (ClassId × FieldType)} {Wf : (Nat → Nat) → va_W} {k0 k1 t1 a0 a1 : Nat} {cB : ClassId} {n : Nat} (hW : okB Wf k0 k1 a0 a1 cB n) (ht : tys[t1]? = some (cB, .byte)) (hn : n ≤ 64) (g : Nat → Nat) (hg : ∀ j, g j < 256) (b d : Nat) (hb1 : b < 2 ^ 31) (hd1 : d < 2 ^ 31) : Met l yX0_sum (Cond.code yX0_sum cX0_sum 8 (some .long) :: TB) { frames := 2, cells := 0, slots := 0, locals := 44 } (xPre Nst (dC, dI) A tys (Wf g) [.ref a0, .int (nI b), .int (nI d)]) (xQl (dC, dI) A (smG n g b d) (Wf g)) 0 0 A := by
  refine x_ofWl (cc := cX0_sum) (maxL := 8) (by decide) rfl (Nat.le_of_ble_eq_true rfl) ?_
  intro p e s m args below meth c Q hx hb hml hts hown hK hN hP hD hS hret ls hl
  have hl : lv_has ls 8 [(0, .ref a0), (1, .int (nI b)), (2, .int (nI d))] := hl
  have hown : s.vm.findClass RX0 = some m.cls := hown
  obtain ⟨Rz, hRz⟩ : ∃ z, z = smG n g b d := ⟨_, rfl⟩
  refine lv_iload_n hx hb dX0_sum_0 rfl (lv_at hl 2 rfl) ?_
  refine lv_i2l (v := lN d) hx hb dX0_sum_1 (nI_l (by omega)) ?_
  refine lv_lstore_n (lv' := [(3, .long (lN d)), (0, .ref a0), (1, .int (nI b)), (2, .int (nI d))]) hx hb dX0_sum_2 rfl hl (by decide) rfl (fun ls hl => ?_)
  refine lv_iconst (v := nI 0) hx hb dX0_sum_3 (by decide) ?_
  refine lv_istore (lv' := [(5, .int (nI 0)), (3, .long (lN d)), (0, .ref a0), (1, .int (nI b)), (2, .int (nI d))]) hx hb dX0_sum_4 hl (by decide) rfl (fun ls hl => ?_)
  have L6 : ∀ (fu6 : Nat) (j : Nat) (sv : Int64), (56 - j < fu6) → (j ≤ 56) → (smF n g b (56 - j) j sv = Rz) → ∀ (H : Heap) (locs : List Loc), va_P (dC, dI) vwCl (Wf g) H → va_D A (Wf g) → va_S A s.heap H locs → ∀ (ls : Array Slot), lv_has ls 8 [(0, .ref a0), (1, .int (nI b)), (2, .int (nI d)), (3, .long (sv)), (5, .int (nI j))] → W p l e { frames := 2, cells := 0, slots := 0, locals := 44 } s m args below meth c H locs 0 0 Q (F0 m 6 ls []) := by
    intro fu6
    induction fu6 with
    | zero => intro j sv hm; exact absurd hm (Nat.not_lt_zero _)
    | succ fu6 ih6 =>
      intro j sv hm i6_0 i6_1 H locs hP hD hS ls hl
      refine lv_iload hx hb dX0_sum_6 (lv_at hl 4 rfl) ?_
      refine lv_bipush (v := nI 56) hx hb dX0_sum_8 (by decide) ?_
      refine x_icmp_ge (tgt := 47) hx hb dX0_sum_10 (by decide) (by omega) (by omega) (fun c10 => ?_) (fun c10 => ?_)
      · refine lv_lload_n hx hb dX0_sum_47 rfl (lv_at hl 3 rfl) ?_
        exact hret dX0_sum_48 (by have h := i6_1; rw [show 56 - j = 0 by omega, smF_0] at h; rw [h, hRz]) hP hD hS
      · refine lv_lload_n hx hb dX0_sum_13 rfl (lv_at hl 3 rfl) ?_
        refine lv_aload_n hx hb dX0_sum_14 rfl (lv_at hl 0 rfl) ?_
        refine lv_iload_n hx hb dX0_sum_15 rfl (lv_at hl 1 rfl) ?_
        refine lv_iload hx hb dX0_sum_16 (lv_at hl 4 rfl) ?_
        refine x_calli (va_runV (As := [.int (nI b), .int (nI j)]) (rest := [.long (sv)]) ⟨hx, hb, hml, hown, hts⟩ (c_Bl_value hW ht hn g hg b j (by omega) (by omega)) (cwV 2 hts (tbV tw_343 tw_345 tw_25 tw_85 tw_346) rfl rfl rfl (by decide +kernel) ⟨Nat.le_of_ble_eq_true rfl, Nat.le_of_ble_eq_true rfl⟩) ⟨x_blind, va_recv hK hP (ci := 0) (q0 := k0) rfl (hW.1 _), x_pre hK hP hD hN⟩ rfl rfl hl.1 rfl (lv_room (Nat.le_of_ble_eq_true rfl)) dX0_sum_18 ⟨Nat.zero_le _, Nat.zero_le _⟩) hS (fun H locs hP hD hS => ?_)
        have hP : va_P (dC, dI) vwCl (Wf g) H := hP
        have hD : va_D A (Wf g) := hD
        have hv18 : bv n g b j < 256 := bv_lt hg
        refine lv_i2l (v := lN (bv n g b j)) hx hb dX0_sum_21 (nI_l (by omega)) ?_
        refine lv_lxor hx hb dX0_sum_22 ?_
        refine lv_lstore (lv' := [(6, .long ((sv ^^^ lN (bv n g b j)))), (0, .ref a0), (1, .int (nI b)), (2, .int (nI d)), (3, .long (sv)), (5, .int (nI j))]) hx hb dX0_sum_23 hl (by decide) rfl (fun ls hl => ?_)
        refine lv_lload hx hb dX0_sum_25 (lv_at hl 0 rfl) ?_
        refine lv_bipush (v := nI 11) hx hb dX0_sum_27 (by decide) ?_
        refine lv_lshl hx hb dX0_sum_29 rfl ?_
        refine lv_lload hx hb dX0_sum_30 (lv_at hl 0 rfl) ?_
        refine lv_bipush (v := nI 53) hx hb dX0_sum_32 (by decide) ?_
        refine lv_lushr hx hb dX0_sum_34 rfl ?_
        refine lv_lor hx hb dX0_sum_35 ?_
        refine lv_ldc2 (v := (-7046029254386353131)) hx hb hown (hts _ (List.mem_cons_of_mem _ tw_347)) dX0_sum_36 ?_
        refine lv_lmul hx hb dX0_sum_39 ?_
        refine x_topl (y := sStep sv (bv n g b j)) (rfl) ?_
        refine lv_lstore_n (lv' := [(3, .long (sStep sv (bv n g b j))), (6, .long ((sv ^^^ lN (bv n g b j)))), (0, .ref a0), (1, .int (nI b)), (2, .int (nI d)), (5, .int (nI j))]) hx hb dX0_sum_40 rfl hl (by decide) rfl (fun ls hl => ?_)
        refine lv_iinc (v := nI (j + 1)) (lv' := [(5, .int (nI (j + 1))), (3, .long (sStep sv (bv n g b j))), (6, .long ((sv ^^^ lN (bv n g b j)))), (0, .ref a0), (1, .int (nI b)), (2, .int (nI d))]) hx hb dX0_sum_41 hl (k := 5) rfl (x_inc _) (by decide) rfl (fun ls hl => ?_)
        refine lv_goto (tgt := 6) hx hb dX0_sum_44 (by decide) ?_
        exact ih6 (j + 1) (sStep sv (bv n g b j)) (by omega) (by omega) (by have h := i6_1; rw [show 56 - j = (56 - (j + 1)) + 1 by omega, smF_s] at h; exact h) _ _ hP hD hS ls (lv_sub hl [3, 4, 5, 1, 0] rfl)
  exact L6 (56 - 0 + 1) 0 (lN d) (by omega) (by omega) (by rw [hRz, smG, Nat.sub_zero]) _ _ hP hD hS ls (lv_sub hl [2, 3, 4, 1, 0] rfl)

set_option maxHeartbeats 4000000 in
set_option maxRecDepth 100000 in
theorem c_Bl_isWhole {l : Launch} {dC : Nat → ClassId} {dI : Nat → Nat → Nat} {A : Nat → Prop} {tys : List (ClassId × FieldType)} {Wf : (Nat → Nat) → va_W} {k0 k1 t1 a0 a1 : Nat} {cB : ClassId} {n : Nat} (hW : okB Wf k0 k1 a0 a1 cB n) (ht : tys[t1]? = some (cB, .byte)) (hn : n ≤ 64) (g : Nat → Nat) (hg : ∀ j, g j < 256) (b : Nat) (hb1 : b < 2 ^ 31) : Met l yX0_isWhole (Cond.code yX0_isWhole cX0_isWhole 2 (some .boolean) :: TB) { frames := 3, cells := 0, slots := 0, locals := 71 } (xPre Nst (dC, dI) A tys (Wf g) [.ref a0, .int (nI b)]) (xQi (dC, dI) A (bI (whole n g b)) (Wf g)) 0 0 A := by
  refine x_ofWz (cc := cX0_isWhole) (maxL := 2) (by decide) rfl (Nat.le_of_ble_eq_true rfl) (x_narZ _) ?_
  intro p e s m args below meth c Q hx hb hml hts hown hK hN hP hD hS hret ls hl
  have hl : lv_has ls 2 [(0, .ref a0), (1, .int (nI b))] := hl
  have hown : s.vm.findClass RX0 = some m.cls := hown
  refine lv_aload_n hx hb dX0_isWhole_0 rfl (lv_at hl 0 rfl) ?_
  refine lv_iload_n hx hb dX0_isWhole_1 rfl (lv_at hl 1 rfl) ?_
  refine lv_bipush (v := nI 56) hx hb dX0_isWhole_2 (by decide) ?_
  refine lv_bipush (v := nI 8) hx hb dX0_isWhole_4 (by decide) ?_
  refine x_calll (va_runV (As := [.int (nI b), .int (nI 56), .int (nI 8)]) (rest := []) ⟨hx, hb, hml, hown, hts⟩ (c_Bl_number hW ht hn g hg b 56 8 (by omega) (by omega) (by omega)) (cwV 3 hts (tbV tw_450 tw_452 tw_42 tw_85 tw_453) rfl rfl rfl (by decide +kernel) ⟨Nat.le_of_ble_eq_true rfl, Nat.le_of_ble_eq_true rfl⟩) ⟨x_blind, va_recv hK hP (ci := 0) (q0 := k0) rfl (hW.1 _), x_pre hK hP hD hN⟩ rfl rfl hl.1 rfl (lv_room (Nat.le_of_ble_eq_true rfl)) dX0_isWhole_6 ⟨Nat.zero_le _, Nat.zero_le _⟩) hS (fun H locs hP hD hS => ?_)
  have hP : va_P (dC, dI) vwCl (Wf g) H := hP
  have hD : va_D A (Wf g) := hD
  refine lv_aload_n hx hb dX0_isWhole_9 rfl (lv_at hl 0 rfl) ?_
  refine lv_iload_n hx hb dX0_isWhole_10 rfl (lv_at hl 1 rfl) ?_
  refine lv_iload_n hx hb dX0_isWhole_11 rfl (lv_at hl 1 rfl) ?_
  refine x_calll (va_runV (As := [.int (nI b), .int (nI b)]) (rest := [.long (lN (num n g b 8 56))]) ⟨hx, hb, hml, hown, hts⟩ (c_Bl_sum hW ht hn g hg b b (by omega) (by omega)) (cwV 2 hts (tbV tw_454 tw_341 tw_24 tw_85 tw_342) rfl rfl rfl (by decide +kernel) ⟨Nat.le_of_ble_eq_true rfl, Nat.le_of_ble_eq_true rfl⟩) ⟨x_blind, va_recv hK hP (ci := 0) (q0 := k0) rfl (hW.1 _), x_pre hK hP hD hN⟩ rfl rfl hl.1 rfl (lv_room (Nat.le_of_ble_eq_true rfl)) dX0_isWhole_12 ⟨Nat.zero_le _, Nat.zero_le _⟩) hS (fun H locs hP hD hS => ?_)
  have hP : va_P (dC, dI) vwCl (Wf g) H := hP
  have hD : va_D A (Wf g) := hD
  refine W.lcmp hx hb dX0_isWhole_15 ?_
  refine x_lif_ne (tgt := 23) hx hb dX0_isWhole_16 (by decide) (fun c16 => ?_) (fun c16 => ?_)
  · refine lv_iconst (v := nI 0) hx hb dX0_isWhole_23 (by decide) ?_
    exact hret dX0_isWhole_24 (by simp [whole, c16, bI]; try rfl) hP hD hS
  · refine lv_iconst (v := nI 1) hx hb dX0_isWhole_19 (by decide) ?_
    refine lv_goto (tgt := 24) hx hb dX0_isWhole_20 (by decide) ?_
    exact hret dX0_isWhole_24 (by simp [whole, c16, bI]; try rfl) hP hD hS
end
section

theorem uof_lt {n : Nat} {u : Nat → Nat} (hu : ∀ j, u j < 8) {b : Nat} : uof n u b < 8 := by
  unfold uof
  split
  · exact hu _
  · decide
theorem umk_lt {n f v : Nat} : ∀ {k : Nat} {u : Nat → Nat} (_ : ∀ j, u j < 8) (_ : v < 8) {i : Nat}, ∀ j, umk n f v k u i j < 8
  | 0, _, hu, _, _ => hu
  | k + 1, u, hu, hv, i => by
    rw [umk]
    refine umk_lt ?_ hv
    split
    · exact va_up_lt hu hv
    · exact hu
theorem utn_lt {x y : Nat} : ∀ {k : Nat} {u : Nat → Nat} (_ : ∀ j, u j < 8) (_ : y < 8) {i : Nat}, ∀ j, utn x y k u i j < 8
  | 0, _, hu, _, _ => hu
  | k + 1, u, hu, hy, i => by
    rw [utn]
    refine utn_lt ?_ hy
    split
    · exact va_up_lt hu hy
    · exact hu
theorem uclr_lt {n : Nat} {u : Nat → Nat} (hu : ∀ j, u j < 8) : ∀ j, uclr n u j < 8 := umk_lt (umk_lt hu (by decide)) (by decide)
theorem x_lr {b w : Nat} (h : w ≤ b + 1) : nI b - nI w + nI 1 = nI (b + 1 - w) := by
  have h1 : nI (b + 1) = nI b + nI 1 := (nI_add b 1).symm
  rw [← pk_sub h, h1]
  simp only [Int32.sub_eq_add_neg, Int32.add_assoc]
  rw [Int32.add_comm (-nI w) (nI 1)]
def okU (Wf : (Nat → Nat) → va_W) (k0 k1 a0 a1 : Nat) (cI : ClassId) (n : Nat) : Prop :=
  (∀ u, (Wf u)[k0]? = some (a0, .inr (4, [.ref a1, .int (nI n)]))) ∧ (∀ u : Nat → Nat, (Wf u)[k1]? = some (a1, .inl (cI, 64, .inl (fun j => nI (u j))))) ∧ (∀ u u' : Nat → Nat, (Wf u).set k1 (a1, .inl (cI, 64, .inl (fun j => nI (u' j)))) = Wf u')
def okUn (Wf : Nat → (Nat → Nat) → va_W) (k0 k1 a0 a1 : Nat) (cI : ClassId) : Prop :=
  (∀ n u, (Wf n u)[k0]? = some (a0, .inr (4, [.ref a1, .int (nI n)]))) ∧ (∀ (n : Nat) (u : Nat → Nat), (Wf n u)[k1]? = some (a1, .inl (cI, 64, .inl (fun j => nI (u j))))) ∧ (∀ (n : Nat) (u : Nat → Nat) (n' : Nat), (Wf n u).set k0 (a0, .inr (4, [.ref a1, .int (nI n')])) = Wf n' u) ∧ (∀ (n : Nat) (u u' : Nat → Nat), (Wf n u).set k1 (a1, .inl (cI, 64, .inl (fun j => nI (u' j)))) = Wf n u')
theorem okUn_U {Wf : Nat → (Nat → Nat) → va_W} {k0 k1 a0 a1 : Nat} {cI : ClassId} (h : okUn Wf k0 k1 a0 a1 cI) (n : Nat) : okU (Wf n) k0 k1 a0 a1 cI n := ⟨fun u => h.1 n u, fun u => h.2.1 n u, fun u u' => h.2.2.2 n u u'⟩
end
section
set_option maxHeartbeats 4000000 in
set_option maxRecDepth 100000 in
theorem c_Us_of {l : Launch} {dC : Nat → ClassId} {dI : Nat → Nat → Nat} {A : Nat → Prop} {tys : List (ClassId × FieldType)} {Wf : (Nat → Nat) → va_W} {k0 k1 t1 a0 a1 : Nat} {cI : ClassId} {n : Nat} (hW : okU Wf k0 k1 a0 a1 cI n) (ht : tys[t1]? = some (cI, .int)) (hn : n ≤ 64) (u : Nat → Nat) (hu : ∀ j, u j < 8) (b : Nat) (hb1 : b < 2 ^ 31) : Met l yX4_of (Cond.code yX4_of cX4_of 2 (some .int) :: TB) { frames := 0, cells := 0, slots := 0, locals := 0 } (xPre Nst (dC, dI) A tys (Wf u) [.ref a0, .int (nI b)]) (xQi (dC, dI) A (nI (uof n u b)) (Wf u)) 0 0 A := by
  refine x_ofWi (cc := cX4_of) (maxL := 2) (by decide) rfl (Nat.le_of_ble_eq_true rfl) ?_
  intro p e s m args below meth c Q hx hb hml hts hown hK hN hP hD hS hret ls hl
  have hl : lv_has ls 2 [(0, .ref a0), (1, .int (nI b))] := hl
  have hown : s.vm.findClass RX4 = some m.cls := hown
  have f25 := hts _ (List.mem_cons_of_mem _ tw_134)
  have in_X4 := (fun q hq => List.mem_cons_of_mem _ (inX4 q hq) : ∀ q ∈ wsX40, q ∈ (Cond.code yX4_of cX4_of 2 (some .int) :: TB))
  have f9 := hts _ (List.mem_cons_of_mem _ tw_133)
  refine lv_iload_n hx hb dX4_of_0 rfl (lv_at hl 1 rfl) ?_
  refine x_if_lt (tgt := 21) hx hb dX4_of_1 (by decide) (by omega) ?_
  refine lv_iload_n hx hb dX4_of_4 rfl (lv_at hl 1 rfl) ?_
  refine lv_aload_n hx hb dX4_of_5 rfl (lv_at hl 0 rfl) ?_
  refine va_get (D := (dC, dI)) (ci := 4) (v := .int (nI n)) (C := RX4) (T := TX4) (N := 2) hx hb hts in_X4 hown hK hP k0 (hW.1 _) rfl 1 (by decide) f25 (fun _ h9 => h9) rfl dX4_of_6 ?_
  refine x_icmp_ge (tgt := 21) hx hb dX4_of_9 (by decide) (by omega) (by omega) (fun c9 => ?_) (fun c9 => ?_)
  · refine lv_iconst (v := nI 0) hx hb dX4_of_21 (by decide) ?_
    exact hret dX4_of_22 (by first | rw [uof, if_pos c9] | rw [uof, if_neg (Nat.not_lt.mpr c9)]) hP hD hS
  · refine lv_aload_n hx hb dX4_of_12 rfl (lv_at hl 0 rfl) ?_
    refine va_get (D := (dC, dI)) (ci := 4) (v := .ref a1) (C := RX4) (T := TX4) (N := 2) hx hb hts in_X4 hown hK hP k0 (hW.1 _) rfl 0 (by decide) f9 (fun _ h9 => h9) rfl dX4_of_13 ?_
    refine lv_iload_n hx hb dX4_of_16 rfl (lv_at hl 1 rfl) ?_
    refine x_iald hx hb hK hP k1 t1 (hW.2.1 _) ht (by omega) (by decide) dX4_of_17 ?_
    refine lv_goto (tgt := 22) hx hb dX4_of_18 (by decide) ?_
    exact hret dX4_of_22 (by first | rw [uof, if_pos c9] | rw [uof, if_neg (Nat.not_lt.mpr c9)]) hP hD hS

set_option maxHeartbeats 4000000 in
set_option maxRecDepth 100000 in
theorem c_Us_mark {l : Launch} {dC : Nat → ClassId} {dI : Nat → Nat → Nat} {A : Nat → Prop} {tys : List (ClassId × FieldType)} {Wf : (Nat → Nat) → va_W} {k0 k1 t1 a0 a1 : Nat} {cI : ClassId} {n : Nat} (hW : okU Wf k0 k1 a0 a1 cI n) (ht : tys[t1]? = some (cI, .int)) (hn : n ≤ 64) (u : Nat → Nat) (hu : ∀ j, u j < 8) (f k v : Nat) (hf1 : f + k < 2 ^ 31) (hv1 : v < 8) : Met l yX4_mark (Cond.code yX4_mark cX4_mark 6 none :: TB) { frames := 0, cells := 0, slots := 0, locals := 0 } (xPre Nst (dC, dI) A tys (Wf u) [.ref a0, .int (nI f), .int (nI k), .int (nI v)]) (xQv (dC, dI) A (Wf (umk n f v k u 0))) 0 0 A := by
  refine x_ofWv (cc := cX4_mark) (maxL := 6) (by decide) rfl (Nat.le_of_ble_eq_true rfl) ?_
  intro p e s m args below meth c Q hx hb hml hts hown hK hN hP hD hS hret ls hl
  have hl : lv_has ls 6 [(0, .ref a0), (1, .int (nI f)), (2, .int (nI k)), (3, .int (nI v))] := hl
  have hown : s.vm.findClass RX4 = some m.cls := hown
  have f25 := hts _ (List.mem_cons_of_mem _ tw_134)
  have in_X4 := (fun q hq => List.mem_cons_of_mem _ (inX4 q hq) : ∀ q ∈ wsX40, q ∈ (Cond.code yX4_mark cX4_mark 6 none :: TB))
  have f9 := hts _ (List.mem_cons_of_mem _ tw_133)
  refine lv_iconst (v := nI 0) hx hb dX4_mark_0 (by decide) ?_
  refine lv_istore (lv' := [(4, .int (nI 0)), (0, .ref a0), (1, .int (nI f)), (2, .int (nI k)), (3, .int (nI v))]) hx hb dX4_mark_1 hl (by decide) rfl (fun ls hl => ?_)
  have L3 : ∀ (fu3 : Nat) (j : Nat) (u' : Nat → Nat), (k - j < fu3) → (j ≤ k) → (∀ q, u' q < 8) → (umk n f v (k - j) u' j = umk n f v k u 0) → ∀ (H : Heap) (locs : List Loc), va_P (dC, dI) vwCl (Wf u') H → va_D A (Wf u') → va_S A s.heap H locs → ∀ (ls : Array Slot), lv_has ls 6 [(0, .ref a0), (1, .int (nI f)), (2, .int (nI k)), (3, .int (nI v)), (4, .int (nI j))] → W p l e { frames := 0, cells := 0, slots := 0, locals := 0 } s m args below meth c H locs 0 0 Q (F0 m 3 ls []) := by
    intro fu3
    induction fu3 with
    | zero => intro j u' hm; exact absurd hm (Nat.not_lt_zero _)
    | succ fu3 ih3 =>
      intro j u' hm i3_0 i3_1 i3_2 H locs hP hD hS ls hl
      refine lv_iload hx hb dX4_mark_3 (lv_at hl 4 rfl) ?_
      refine lv_iload_n hx hb dX4_mark_5 rfl (lv_at hl 2 rfl) ?_
      refine x_icmp_ge (tgt := 43) hx hb dX4_mark_6 (by decide) (by omega) (by omega) (fun c6 => ?_) (fun c6 => ?_)
      · have e1 : u' = (umk n f v k u 0) := by have h := i3_2; rw [show k - j = 0 by omega] at h; exact h
        have h9 : Wf u' = Wf (umk n f v k u 0) := by rw [← e1]
        have hP := x_wP h9 hP
        have hD := x_wD h9 hD
        exact hret dX4_mark_43 hP hD hS
      · refine lv_iload_n hx hb dX4_mark_9 rfl (lv_at hl 1 rfl) ?_
        refine lv_iload hx hb dX4_mark_10 (lv_at hl 4 rfl) ?_
        refine x_iadd hx hb dX4_mark_12 ?_
        refine lv_istore (lv' := [(5, .int (nI (f + j))), (0, .ref a0), (1, .int (nI f)), (2, .int (nI k)), (3, .int (nI v)), (4, .int (nI j))]) hx hb dX4_mark_13 hl (by decide) rfl (fun ls hl => ?_)
        refine lv_iload hx hb dX4_mark_15 (lv_at hl 0 rfl) ?_
        refine x_if_lt (tgt := 37) hx hb dX4_mark_17 (by decide) (by omega) ?_
        refine lv_iload hx hb dX4_mark_20 (lv_at hl 0 rfl) ?_
        refine lv_aload_n hx hb dX4_mark_22 rfl (lv_at hl 1 rfl) ?_
        refine va_get (D := (dC, dI)) (ci := 4) (v := .int (nI n)) (C := RX4) (T := TX4) (N := 2) hx hb hts in_X4 hown hK hP k0 (hW.1 _) rfl 1 (by decide) f25 (fun _ h9 => h9) rfl dX4_mark_23 ?_
        refine x_icmp_ge (tgt := 37) hx hb dX4_mark_26 (by decide) (by omega) (by omega) (fun c26 => ?_) (fun c26 => ?_)
        · refine lv_iinc (v := nI (j + 1)) (lv' := [(4, .int (nI (j + 1))), (5, .int (nI (f + j))), (0, .ref a0), (1, .int (nI f)), (2, .int (nI k)), (3, .int (nI v))]) hx hb dX4_mark_37 hl (k := 5) rfl (x_inc _) (by decide) rfl (fun ls hl => ?_)
          refine lv_goto (tgt := 3) hx hb dX4_mark_40 (by decide) ?_
          exact ih3 (j + 1) u' (by omega) (by omega) (by first | exact i3_1 | exact va_up_lt i3_1 hv1) (by have h := i3_2; rw [show k - j = (k - (j + 1)) + 1 by omega, umk] at h; first | (rw [if_pos c26] at h; exact h) | (rw [if_neg (Nat.not_lt.mpr c26)] at h; exact h)) _ _ hP hD hS ls (lv_sub hl [2, 3, 4, 5, 0] rfl)
        · refine lv_aload_n hx hb dX4_mark_29 rfl (lv_at hl 1 rfl) ?_
          refine va_get (D := (dC, dI)) (ci := 4) (v := .ref a1) (C := RX4) (T := TX4) (N := 2) hx hb hts in_X4 hown hK hP k0 (hW.1 _) rfl 0 (by decide) f9 (fun _ h9 => h9) rfl dX4_mark_30 ?_
          refine lv_iload hx hb dX4_mark_33 (lv_at hl 0 rfl) ?_
          refine lv_iload_n hx hb dX4_mark_35 rfl (lv_at hl 4 rfl) ?_
          refine x_iast hx hb hK hP hD hS k1 t1 (hW.2.1 _) ht (by omega) (by decide) dX4_mark_36 (fun H locs hP hD hS => ?_)
          have hP := x_wP (hW.2.2 _ (va_up u' (f + j) v)) hP
          have hD := x_wD (hW.2.2 _ (va_up u' (f + j) v)) hD
          have hP : va_P (dC, dI) vwCl (Wf (va_up u' (f + j) v)) H := hP
          have hD : va_D A (Wf (va_up u' (f + j) v)) := hD
          refine lv_iinc (v := nI (j + 1)) (lv' := [(4, .int (nI (j + 1))), (5, .int (nI (f + j))), (0, .ref a0), (1, .int (nI f)), (2, .int (nI k)), (3, .int (nI v))]) hx hb dX4_mark_37 hl (k := 5) rfl (x_inc _) (by decide) rfl (fun ls hl => ?_)
          refine lv_goto (tgt := 3) hx hb dX4_mark_40 (by decide) ?_
          exact ih3 (j + 1) (va_up u' (f + j) v) (by omega) (by omega) (by first | exact i3_1 | exact va_up_lt i3_1 hv1) (by have h := i3_2; rw [show k - j = (k - (j + 1)) + 1 by omega, umk] at h; first | (rw [if_pos c26] at h; exact h) | (rw [if_neg (Nat.not_lt.mpr c26)] at h; exact h)) _ _ hP hD hS ls (lv_sub hl [2, 3, 4, 5, 0] rfl)
  exact L3 (k - 0 + 1) 0 u (by omega) (by omega) (by exact hu) (by rfl) _ _ hP hD hS ls (lv_sub hl [1, 2, 3, 4, 0] rfl)

set_option maxHeartbeats 4000000 in
set_option maxRecDepth 100000 in
theorem c_Us_turn {l : Launch} {dC : Nat → ClassId} {dI : Nat → Nat → Nat} {A : Nat → Prop} {tys : List (ClassId × FieldType)} {Wf : (Nat → Nat) → va_W} {k0 k1 t1 a0 a1 : Nat} {cI : ClassId} {n : Nat} (hW : okU Wf k0 k1 a0 a1 cI n) (ht : tys[t1]? = some (cI, .int)) (hn : n ≤ 64) (u : Nat → Nat) (hu : ∀ j, u j < 8) (x y : Nat) (hx1 : x < 8) (hy1 : y < 8) : Met l yX4_turn (Cond.code yX4_turn cX4_turn 4 none :: TB) { frames := 0, cells := 0, slots := 0, locals := 0 } (xPre Nst (dC, dI) A tys (Wf u) [.ref a0, .int (nI x), .int (nI y)]) (xQv (dC, dI) A (Wf (utn x y n u 0))) 0 0 A := by
  refine x_ofWv (cc := cX4_turn) (maxL := 4) (by decide) rfl (Nat.le_of_ble_eq_true rfl) ?_
  intro p e s m args below meth c Q hx hb hml hts hown hK hN hP hD hS hret ls hl
  have hl : lv_has ls 4 [(0, .ref a0), (1, .int (nI x)), (2, .int (nI y))] := hl
  have hown : s.vm.findClass RX4 = some m.cls := hown
  have f25 := hts _ (List.mem_cons_of_mem _ tw_134)
  have in_X4 := (fun q hq => List.mem_cons_of_mem _ (inX4 q hq) : ∀ q ∈ wsX40, q ∈ (Cond.code yX4_turn cX4_turn 4 none :: TB))
  have f9 := hts _ (List.mem_cons_of_mem _ tw_133)
  refine lv_iconst (v := nI 0) hx hb dX4_turn_0 (by decide) ?_
  refine lv_istore_n (lv' := [(3, .int (nI 0)), (0, .ref a0), (1, .int (nI x)), (2, .int (nI y))]) hx hb dX4_turn_1 rfl hl (by decide) rfl (fun ls hl => ?_)
  have L2 : ∀ (fu2 : Nat) (b : Nat) (u' : Nat → Nat), (n - b < fu2) → (b ≤ n) → (∀ q, u' q < 8) → (utn x y (n - b) u' b = utn x y n u 0) → ∀ (H : Heap) (locs : List Loc), va_P (dC, dI) vwCl (Wf u') H → va_D A (Wf u') → va_S A s.heap H locs → ∀ (ls : Array Slot), lv_has ls 4 [(0, .ref a0), (1, .int (nI x)), (2, .int (nI y)), (3, .int (nI b))] → W p l e { frames := 0, cells := 0, slots := 0, locals := 0 } s m args below meth c H locs 0 0 Q (F0 m 2 ls []) := by
    intro fu2
    induction fu2 with
    | zero => intro b u' hm; exact absurd hm (Nat.not_lt_zero _)
    | succ fu2 ih2 =>
      intro b u' hm i2_0 i2_1 i2_2 H locs hP hD hS ls hl
      have q1 := i2_1 b
      refine lv_iload_n hx hb dX4_turn_2 rfl (lv_at hl 3 rfl) ?_
      refine lv_aload_n hx hb dX4_turn_3 rfl (lv_at hl 0 rfl) ?_
      refine va_get (D := (dC, dI)) (ci := 4) (v := .int (nI n)) (C := RX4) (T := TX4) (N := 2) hx hb hts in_X4 hown hK hP k0 (hW.1 _) rfl 1 (by decide) f25 (fun _ h9 => h9) rfl dX4_turn_4 ?_
      refine x_icmp_ge (tgt := 33) hx hb dX4_turn_7 (by decide) (by omega) (by omega) (fun c7 => ?_) (fun c7 => ?_)
      · have e1 : u' = (utn x y n u 0) := by have h := i2_2; rw [show n - b = 0 by omega] at h; exact h
        have h9 : Wf u' = Wf (utn x y n u 0) := by rw [← e1]
        have hP := x_wP h9 hP
        have hD := x_wD h9 hD
        exact hret dX4_turn_33 hP hD hS
      · refine lv_aload_n hx hb dX4_turn_10 rfl (lv_at hl 0 rfl) ?_
        refine va_get (D := (dC, dI)) (ci := 4) (v := .ref a1) (C := RX4) (T := TX4) (N := 2) hx hb hts in_X4 hown hK hP k0 (hW.1 _) rfl 0 (by decide) f9 (fun _ h9 => h9) rfl dX4_turn_11 ?_
        refine lv_iload_n hx hb dX4_turn_14 rfl (lv_at hl 3 rfl) ?_
        refine x_iald hx hb hK hP k1 t1 (hW.2.1 _) ht (by omega) (by decide) dX4_turn_15 ?_
        refine lv_iload_n hx hb dX4_turn_16 rfl (lv_at hl 1 rfl) ?_
        refine x_icmp_ne (tgt := 27) hx hb dX4_turn_17 (by decide) (by omega) (by omega) (fun c17 => ?_) (fun c17 => ?_)
        · refine lv_iinc (v := nI (b + 1)) (lv' := [(3, .int (nI (b + 1))), (0, .ref a0), (1, .int (nI x)), (2, .int (nI y))]) hx hb dX4_turn_27 hl (k := 3) rfl (x_inc _) (by decide) rfl (fun ls hl => ?_)
          refine lv_goto (tgt := 2) hx hb dX4_turn_30 (by decide) ?_
          exact ih2 (b + 1) u' (by omega) (by omega) (by first | exact i2_1 | exact va_up_lt i2_1 hy1) (by have h := i2_2; rw [show n - b = (n - (b + 1)) + 1 by omega, utn] at h; first | (rw [if_pos c17] at h; exact h) | (rw [if_neg c17] at h; exact h)) _ _ hP hD hS ls (lv_sub hl [1, 2, 3, 0] rfl)
        · refine lv_aload_n hx hb dX4_turn_20 rfl (lv_at hl 0 rfl) ?_
          refine va_get (D := (dC, dI)) (ci := 4) (v := .ref a1) (C := RX4) (T := TX4) (N := 2) hx hb hts in_X4 hown hK hP k0 (hW.1 _) rfl 0 (by decide) f9 (fun _ h9 => h9) rfl dX4_turn_21 ?_
          refine lv_iload_n hx hb dX4_turn_24 rfl (lv_at hl 3 rfl) ?_
          refine lv_iload_n hx hb dX4_turn_25 rfl (lv_at hl 2 rfl) ?_
          refine x_iast hx hb hK hP hD hS k1 t1 (hW.2.1 _) ht (by omega) (by decide) dX4_turn_26 (fun H locs hP hD hS => ?_)
          have hP := x_wP (hW.2.2 _ (va_up u' b y)) hP
          have hD := x_wD (hW.2.2 _ (va_up u' b y)) hD
          have hP : va_P (dC, dI) vwCl (Wf (va_up u' b y)) H := hP
          have hD : va_D A (Wf (va_up u' b y)) := hD
          refine lv_iinc (v := nI (b + 1)) (lv' := [(3, .int (nI (b + 1))), (0, .ref a0), (1, .int (nI x)), (2, .int (nI y))]) hx hb dX4_turn_27 hl (k := 3) rfl (x_inc _) (by decide) rfl (fun ls hl => ?_)
          refine lv_goto (tgt := 2) hx hb dX4_turn_30 (by decide) ?_
          exact ih2 (b + 1) (va_up u' b y) (by omega) (by omega) (by first | exact i2_1 | exact va_up_lt i2_1 hy1) (by have h := i2_2; rw [show n - b = (n - (b + 1)) + 1 by omega, utn] at h; first | (rw [if_pos c17] at h; exact h) | (rw [if_neg c17] at h; exact h)) _ _ hP hD hS ls (lv_sub hl [1, 2, 3, 0] rfl)
  exact L2 (n - 0 + 1) 0 u (by omega) (by omega) (by exact hu) (by rfl) _ _ hP hD hS ls (lv_sub hl [1, 2, 3, 0] rfl)

set_option maxHeartbeats 4000000 in
set_option maxRecDepth 100000 in
theorem c_Us_howMany {l : Launch} {dC : Nat → ClassId} {dI : Nat → Nat → Nat} {A : Nat → Prop} {tys : List (ClassId × FieldType)} {Wf : (Nat → Nat) → va_W} {k0 k1 t1 a0 a1 : Nat} {cI : ClassId} {n : Nat} (hW : okU Wf k0 k1 a0 a1 cI n) (ht : tys[t1]? = some (cI, .int)) (hn : n ≤ 64) (u : Nat → Nat) (hu : ∀ j, u j < 8) (x : Nat) (hx1 : x < 8) : Met l yX4_howMany (Cond.code yX4_howMany cX4_howMany 4 (some .int) :: TB) { frames := 0, cells := 0, slots := 0, locals := 0 } (xPre Nst (dC, dI) A tys (Wf u) [.ref a0, .int (nI x)]) (xQi (dC, dI) A (nI (uhm x u n 0 0)) (Wf u)) 0 0 A := by
  refine x_ofWi (cc := cX4_howMany) (maxL := 4) (by decide) rfl (Nat.le_of_ble_eq_true rfl) ?_
  intro p e s m args below meth c Q hx hb hml hts hown hK hN hP hD hS hret ls hl
  have hl : lv_has ls 4 [(0, .ref a0), (1, .int (nI x))] := hl
  have hown : s.vm.findClass RX4 = some m.cls := hown
  have f25 := hts _ (List.mem_cons_of_mem _ tw_134)
  have in_X4 := (fun q hq => List.mem_cons_of_mem _ (inX4 q hq) : ∀ q ∈ wsX40, q ∈ (Cond.code yX4_howMany cX4_howMany 4 (some .int) :: TB))
  have f9 := hts _ (List.mem_cons_of_mem _ tw_133)
  refine lv_iconst (v := nI 0) hx hb dX4_howMany_0 (by decide) ?_
  refine lv_istore_n (lv' := [(2, .int (nI 0)), (0, .ref a0), (1, .int (nI x))]) hx hb dX4_howMany_1 rfl hl (by decide) rfl (fun ls hl => ?_)
  refine lv_iconst (v := nI 0) hx hb dX4_howMany_2 (by decide) ?_
  refine lv_istore_n (lv' := [(3, .int (nI 0)), (2, .int (nI 0)), (0, .ref a0), (1, .int (nI x))]) hx hb dX4_howMany_3 rfl hl (by decide) rfl (fun ls hl => ?_)
  have L4 : ∀ (fu4 : Nat) (b : Nat) (r : Nat), (n - b < fu4) → (b ≤ n) → (r ≤ b) → (uhm x u (n - b) b r = uhm x u n 0 0) → ∀ (H : Heap) (locs : List Loc), va_P (dC, dI) vwCl (Wf u) H → va_D A (Wf u) → va_S A s.heap H locs → ∀ (ls : Array Slot), lv_has ls 4 [(0, .ref a0), (1, .int (nI x)), (2, .int (nI r)), (3, .int (nI b))] → W p l e { frames := 0, cells := 0, slots := 0, locals := 0 } s m args below meth c H locs 0 0 Q (F0 m 4 ls []) := by
    intro fu4
    induction fu4 with
    | zero => intro b r hm; exact absurd hm (Nat.not_lt_zero _)
    | succ fu4 ih4 =>
      intro b r hm i4_0 i4_1 i4_2 H locs hP hD hS ls hl
      have q1 := hu b
      refine lv_iload_n hx hb dX4_howMany_4 rfl (lv_at hl 3 rfl) ?_
      refine lv_aload_n hx hb dX4_howMany_5 rfl (lv_at hl 0 rfl) ?_
      refine va_get (D := (dC, dI)) (ci := 4) (v := .int (nI n)) (C := RX4) (T := TX4) (N := 2) hx hb hts in_X4 hown hK hP k0 (hW.1 _) rfl 1 (by decide) f25 (fun _ h9 => h9) rfl dX4_howMany_6 ?_
      refine x_icmp_ge (tgt := 31) hx hb dX4_howMany_9 (by decide) (by omega) (by omega) (fun c9 => ?_) (fun c9 => ?_)
      · refine lv_iload_n hx hb dX4_howMany_31 rfl (lv_at hl 2 rfl) ?_
        exact hret dX4_howMany_32 (by have h := i4_2; rw [show n - b = 0 by omega, uhm] at h; rw [h]) hP hD hS
      · refine lv_aload_n hx hb dX4_howMany_12 rfl (lv_at hl 0 rfl) ?_
        refine va_get (D := (dC, dI)) (ci := 4) (v := .ref a1) (C := RX4) (T := TX4) (N := 2) hx hb hts in_X4 hown hK hP k0 (hW.1 _) rfl 0 (by decide) f9 (fun _ h9 => h9) rfl dX4_howMany_13 ?_
        refine lv_iload_n hx hb dX4_howMany_16 rfl (lv_at hl 3 rfl) ?_
        refine x_iald hx hb hK hP k1 t1 (hW.2.1 _) ht (by omega) (by decide) dX4_howMany_17 ?_
        refine lv_iload_n hx hb dX4_howMany_18 rfl (lv_at hl 1 rfl) ?_
        refine x_icmp_ne (tgt := 25) hx hb dX4_howMany_19 (by decide) (by omega) (by omega) (fun c19 => ?_) (fun c19 => ?_)
        · refine lv_iinc (v := nI (b + 1)) (lv' := [(3, .int (nI (b + 1))), (0, .ref a0), (1, .int (nI x)), (2, .int (nI r))]) hx hb dX4_howMany_25 hl (k := 3) rfl (x_inc _) (by decide) rfl (fun ls hl => ?_)
          refine lv_goto (tgt := 4) hx hb dX4_howMany_28 (by decide) ?_
          exact ih4 (b + 1) r (by omega) (by omega) (by omega) (by have h := i4_2; rw [show n - b = (n - (b + 1)) + 1 by omega, uhm] at h; first | (rw [if_pos c19] at h; exact h) | (rw [if_neg c19] at h; exact h)) _ _ hP hD hS ls (lv_sub hl [1, 2, 3, 0] rfl)
        · refine lv_iinc (v := nI (r + 1)) (lv' := [(2, .int (nI (r + 1))), (0, .ref a0), (1, .int (nI x)), (3, .int (nI b))]) hx hb dX4_howMany_22 hl (k := 2) rfl (x_inc _) (by decide) rfl (fun ls hl => ?_)
          refine lv_iinc (v := nI (b + 1)) (lv' := [(3, .int (nI (b + 1))), (2, .int (nI (r + 1))), (0, .ref a0), (1, .int (nI x))]) hx hb dX4_howMany_25 hl (k := 3) rfl (x_inc _) (by decide) rfl (fun ls hl => ?_)
          refine lv_goto (tgt := 4) hx hb dX4_howMany_28 (by decide) ?_
          exact ih4 (b + 1) (r + 1) (by omega) (by omega) (by omega) (by have h := i4_2; rw [show n - b = (n - (b + 1)) + 1 by omega, uhm] at h; first | (rw [if_pos c19] at h; exact h) | (rw [if_neg c19] at h; exact h)) _ _ hP hD hS ls (lv_sub hl [2, 3, 1, 0] rfl)
  exact L4 (n - 0 + 1) 0 0 (by omega) (by omega) (by omega) (by rfl) _ _ hP hD hS ls (lv_sub hl [2, 3, 1, 0] rfl)

set_option maxHeartbeats 4000000 in
set_option maxRecDepth 100000 in
theorem c_Us_leastRun {l : Launch} {dC : Nat → ClassId} {dI : Nat → Nat → Nat} {A : Nat → Prop} {tys : List (ClassId × FieldType)} {Wf : (Nat → Nat) → va_W} {k0 k1 t1 a0 a1 : Nat} {cI : ClassId} {n : Nat} (hW : okU Wf k0 k1 a0 a1 cI n) (ht : tys[t1]? = some (cI, .int)) (hn : n ≤ 64) (u : Nat → Nat) (hu : ∀ j, u j < 8) (w : Nat) (hw0 : 0 < w) (hw1 : w < 2 ^ 31) : Met l yX4_leastRun (Cond.code yX4_leastRun cX4_leastRun 4 (some .int) :: TB) { frames := 0, cells := 0, slots := 0, locals := 0 } (xPre Nst (dC, dI) A tys (Wf u) [.ref a0, .int (nI w)]) (xQi (dC, dI) A (oI (ulr u w n 0 0)) (Wf u)) 0 0 A := by
  refine x_ofWi (cc := cX4_leastRun) (maxL := 4) (by decide) rfl (Nat.le_of_ble_eq_true rfl) ?_
  intro p e s m args below meth c Q hx hb hml hts hown hK hN hP hD hS hret ls hl
  have hl : lv_has ls 4 [(0, .ref a0), (1, .int (nI w))] := hl
  have hown : s.vm.findClass RX4 = some m.cls := hown
  have f25 := hts _ (List.mem_cons_of_mem _ tw_134)
  have in_X4 := (fun q hq => List.mem_cons_of_mem _ (inX4 q hq) : ∀ q ∈ wsX40, q ∈ (Cond.code yX4_leastRun cX4_leastRun 4 (some .int) :: TB))
  have f9 := hts _ (List.mem_cons_of_mem _ tw_133)
  refine lv_iconst (v := nI 0) hx hb dX4_leastRun_0 (by decide) ?_
  refine lv_istore_n (lv' := [(2, .int (nI 0)), (0, .ref a0), (1, .int (nI w))]) hx hb dX4_leastRun_1 rfl hl (by decide) rfl (fun ls hl => ?_)
  refine lv_iconst (v := nI 0) hx hb dX4_leastRun_2 (by decide) ?_
  refine lv_istore_n (lv' := [(3, .int (nI 0)), (2, .int (nI 0)), (0, .ref a0), (1, .int (nI w))]) hx hb dX4_leastRun_3 rfl hl (by decide) rfl (fun ls hl => ?_)
  have L4 : ∀ (fu4 : Nat) (b : Nat) (r : Nat), (n - b < fu4) → (b ≤ n) → (r ≤ b) → (ulr u w (n - b) b r = ulr u w n 0 0) → ∀ (H : Heap) (locs : List Loc), va_P (dC, dI) vwCl (Wf u) H → va_D A (Wf u) → va_S A s.heap H locs → ∀ (ls : Array Slot), lv_has ls 4 [(0, .ref a0), (1, .int (nI w)), (2, .int (nI r)), (3, .int (nI b))] → W p l e { frames := 0, cells := 0, slots := 0, locals := 0 } s m args below meth c H locs 0 0 Q (F0 m 4 ls []) := by
    intro fu4
    induction fu4 with
    | zero => intro b r hm; exact absurd hm (Nat.not_lt_zero _)
    | succ fu4 ih4 =>
      intro b r hm i4_0 i4_1 i4_2 H locs hP hD hS ls hl
      have q1 := hu b
      refine lv_iload_n hx hb dX4_leastRun_4 rfl (lv_at hl 3 rfl) ?_
      refine lv_aload_n hx hb dX4_leastRun_5 rfl (lv_at hl 0 rfl) ?_
      refine va_get (D := (dC, dI)) (ci := 4) (v := .int (nI n)) (C := RX4) (T := TX4) (N := 2) hx hb hts in_X4 hown hK hP k0 (hW.1 _) rfl 1 (by decide) f25 (fun _ h9 => h9) rfl dX4_leastRun_6 ?_
      refine x_icmp_ge (tgt := 46) hx hb dX4_leastRun_9 (by decide) (by omega) (by omega) (fun c9 => ?_) (fun c9 => ?_)
      · refine lv_bipush (v := (-2)) hx hb dX4_leastRun_46 (by decide) ?_
        exact hret dX4_leastRun_48 (by have h := i4_2; rw [show n - b = 0 by omega, ulr] at h; rw [← h]; rfl) hP hD hS
      · refine lv_aload_n hx hb dX4_leastRun_12 rfl (lv_at hl 0 rfl) ?_
        refine va_get (D := (dC, dI)) (ci := 4) (v := .ref a1) (C := RX4) (T := TX4) (N := 2) hx hb hts in_X4 hown hK hP k0 (hW.1 _) rfl 0 (by decide) f9 (fun _ h9 => h9) rfl dX4_leastRun_13 ?_
        refine lv_iload_n hx hb dX4_leastRun_16 rfl (lv_at hl 3 rfl) ?_
        refine x_iald hx hb hK hP k1 t1 (hW.2.1 _) ht (by omega) (by decide) dX4_leastRun_17 ?_
        refine x_if_ne (tgt := 27) hx hb dX4_leastRun_18 (by decide) (by omega) (fun c18 => ?_) (fun c18 => ?_)
        · refine lv_iconst (v := nI 0) hx hb dX4_leastRun_27 (by decide) ?_
          refine lv_istore_n (lv' := [(2, .int (nI 0)), (0, .ref a0), (1, .int (nI w)), (3, .int (nI b))]) hx hb dX4_leastRun_28 rfl hl (by decide) rfl (fun ls hl => ?_)
          refine lv_iload_n hx hb dX4_leastRun_29 rfl (lv_at hl 0 rfl) ?_
          refine lv_iload_n hx hb dX4_leastRun_30 rfl (lv_at hl 2 rfl) ?_
          refine x_icmp_lt (tgt := 40) hx hb dX4_leastRun_31 (by decide) (by omega) (by omega) (fun c31 => ?_) (fun c31 => ?_)
          · refine lv_iinc (v := nI (b + 1)) (lv' := [(3, .int (nI (b + 1))), (2, .int (nI 0)), (0, .ref a0), (1, .int (nI w))]) hx hb dX4_leastRun_40 hl (k := 3) rfl (x_inc _) (by decide) rfl (fun ls hl => ?_)
            refine lv_goto (tgt := 4) hx hb dX4_leastRun_43 (by decide) ?_
            exact ih4 (b + 1) 0 (by omega) (by omega) (by omega) (by have h := i4_2; rw [show n - b = (n - (b + 1)) + 1 by omega, ulr] at h; first | (rw [if_pos c18, if_neg (Nat.not_le.mpr c31)] at h; exact h) | (rw [if_neg c18, if_neg (Nat.not_le.mpr c31)] at h; exact h)) _ _ hP hD hS ls (lv_sub hl [2, 3, 1, 0] rfl)
          · refine lv_iload_n hx hb dX4_leastRun_34 rfl (lv_at hl 3 rfl) ?_
            refine lv_iload_n hx hb dX4_leastRun_35 rfl (lv_at hl 2 rfl) ?_
            refine lv_isub hx hb dX4_leastRun_36 ?_
            refine lv_iconst (v := nI 1) hx hb dX4_leastRun_37 (by decide) ?_
            refine lv_iadd hx hb dX4_leastRun_38 ?_
            exact hret dX4_leastRun_39 (by first | exact absurd c31 (by omega) | (have h := i4_2; rw [show n - b = (n - (b + 1)) + 1 by omega, ulr, if_pos c18, if_pos c31] at h; rw [← h]; exact x_lr (by omega))) hP hD hS
        · refine lv_iload_n hx hb dX4_leastRun_21 rfl (lv_at hl 2 rfl) ?_
          refine lv_iconst (v := nI 1) hx hb dX4_leastRun_22 (by decide) ?_
          refine x_iadd hx hb dX4_leastRun_23 ?_
          refine lv_goto (tgt := 28) hx hb dX4_leastRun_24 (by decide) ?_
          refine lv_istore_n (lv' := [(2, .int (nI (r + 1))), (0, .ref a0), (1, .int (nI w)), (3, .int (nI b))]) hx hb dX4_leastRun_28 rfl hl (by decide) rfl (fun ls hl => ?_)
          refine lv_iload_n hx hb dX4_leastRun_29 rfl (lv_at hl 0 rfl) ?_
          refine lv_iload_n hx hb dX4_leastRun_30 rfl (lv_at hl 2 rfl) ?_
          refine x_icmp_lt (tgt := 40) hx hb dX4_leastRun_31 (by decide) (by omega) (by omega) (fun c31 => ?_) (fun c31 => ?_)
          · refine lv_iinc (v := nI (b + 1)) (lv' := [(3, .int (nI (b + 1))), (2, .int (nI (r + 1))), (0, .ref a0), (1, .int (nI w))]) hx hb dX4_leastRun_40 hl (k := 3) rfl (x_inc _) (by decide) rfl (fun ls hl => ?_)
            refine lv_goto (tgt := 4) hx hb dX4_leastRun_43 (by decide) ?_
            exact ih4 (b + 1) (r + 1) (by omega) (by omega) (by omega) (by have h := i4_2; rw [show n - b = (n - (b + 1)) + 1 by omega, ulr] at h; first | (rw [if_pos c18, if_neg (Nat.not_le.mpr c31)] at h; exact h) | (rw [if_neg c18, if_neg (Nat.not_le.mpr c31)] at h; exact h)) _ _ hP hD hS ls (lv_sub hl [2, 3, 1, 0] rfl)
          · refine lv_iload_n hx hb dX4_leastRun_34 rfl (lv_at hl 3 rfl) ?_
            refine lv_iload_n hx hb dX4_leastRun_35 rfl (lv_at hl 2 rfl) ?_
            refine lv_isub hx hb dX4_leastRun_36 ?_
            refine lv_iconst (v := nI 1) hx hb dX4_leastRun_37 (by decide) ?_
            refine lv_iadd hx hb dX4_leastRun_38 ?_
            exact hret dX4_leastRun_39 (by first | exact absurd c31 (by omega) | (have h := i4_2; rw [show n - b = (n - (b + 1)) + 1 by omega, ulr, if_pos c18, if_pos c31] at h; rw [← h]; exact x_lr (by omega))) hP hD hS
  exact L4 (n - 0 + 1) 0 0 (by omega) (by omega) (by omega) (by rfl) _ _ hP hD hS ls (lv_sub hl [2, 3, 1, 0] rfl)

set_option maxHeartbeats 4000000 in
set_option maxRecDepth 100000 in
theorem c_Us_leastFree {l : Launch} {dC : Nat → ClassId} {dI : Nat → Nat → Nat} {A : Nat → Prop} {tys : List (ClassId × FieldType)} {Wf : (Nat → Nat) → va_W} {k0 k1 t1 a0 a1 : Nat} {cI : ClassId} {n : Nat} (hW : okU Wf k0 k1 a0 a1 cI n) (ht : tys[t1]? = some (cI, .int)) (hn : n ≤ 64) (u : Nat → Nat) (hu : ∀ j, u j < 8) : Met l yX4_leastFree (Cond.code yX4_leastFree cX4_leastFree 1 (some .int) :: TB) { frames := 1, cells := 0, slots := 0, locals := 23 } (xPre Nst (dC, dI) A tys (Wf u) [.ref a0]) (xQi (dC, dI) A (oI (ulr u 1 n 0 0)) (Wf u)) 0 0 A := by
  refine x_ofWi (cc := cX4_leastFree) (maxL := 1) (by decide) rfl (Nat.le_of_ble_eq_true rfl) ?_
  intro p e s m args below meth c Q hx hb hml hts hown hK hN hP hD hS hret ls hl
  have hl : lv_has ls 1 [(0, .ref a0)] := hl
  have hown : s.vm.findClass RX4 = some m.cls := hown
  refine lv_aload_n hx hb dX4_leastFree_0 rfl (lv_at hl 0 rfl) ?_
  refine lv_iconst (v := nI 1) hx hb dX4_leastFree_1 (by decide) ?_
  refine x_calli (va_runV (As := [.int (nI 1)]) (rest := []) ⟨hx, hb, hml, hown, hts⟩ (c_Us_leastRun hW ht hn u hu 1 (by omega) (by omega)) (cwV 1 hts (tbV tw_284 tw_286 tw_11 tw_86 tw_287) rfl rfl rfl (by decide +kernel) ⟨Nat.le_of_ble_eq_true rfl, Nat.le_of_ble_eq_true rfl⟩) ⟨x_blind, va_recv hK hP (ci := 4) (q0 := k0) rfl (hW.1 _), x_pre hK hP hD hN⟩ rfl rfl hl.1 rfl (lv_room (Nat.le_of_ble_eq_true rfl)) dX4_leastFree_2 ⟨Nat.zero_le _, Nat.zero_le _⟩) hS (fun H locs hP hD hS => ?_)
  have hP : va_P (dC, dI) vwCl (Wf u) H := hP
  have hD : va_D A (Wf u) := hD
  exact hret dX4_leastFree_5 (by rfl) hP hD hS

set_option maxHeartbeats 4000000 in
set_option maxRecDepth 100000 in
theorem c_Us_clear {l : Launch} {dC : Nat → ClassId} {dI : Nat → Nat → Nat} {A : Nat → Prop} {tys : List (ClassId × FieldType)} {Wn : Nat → (Nat → Nat) → va_W} {k0 k1 t1 a0 a1 : Nat} {cI : ClassId} (hW : okUn Wn k0 k1 a0 a1 cI) (ht : tys[t1]? = some (cI, .int)) (n0 : Nat) (u : Nat → Nat) (hu : ∀ j, u j < 8) (k : Nat) (hk1 : k ≤ 64) : Met l yX4_clear (Cond.code yX4_clear cX4_clear 2 none :: TB) { frames := 1, cells := 0, slots := 0, locals := 25 } (xPre Nst (dC, dI) A tys (Wn n0 u) [.ref a0, .int (nI k)]) (xQv (dC, dI) A (Wn k (uclr k u))) 0 0 A := by
  refine x_ofWv (cc := cX4_clear) (maxL := 2) (by decide) rfl (Nat.le_of_ble_eq_true rfl) ?_
  intro p e s m args below meth c Q hx hb hml hts hown hK hN hP hD hS hret ls hl
  have hl : lv_has ls 2 [(0, .ref a0), (1, .int (nI k))] := hl
  have hown : s.vm.findClass RX4 = some m.cls := hown
  have m19a := hts _ (List.mem_cons_of_mem _ tw_126)
  have mminb := hts _ (List.mem_cons_of_mem _ tw_127)
  have mMath := hts _ (List.mem_cons_of_mem _ tw_87)
  have mminc := hts _ (List.mem_cons_of_mem _ tw_128)
  have f25 := hts _ (List.mem_cons_of_mem _ tw_134)
  have in_X4 := (fun q hq => List.mem_cons_of_mem _ (inX4 q hq) : ∀ q ∈ wsX40, q ∈ (Cond.code yX4_clear cX4_clear 2 none :: TB))
  refine lv_aload_n hx hb dX4_clear_0 rfl (lv_at hl 0 rfl) ?_
  refine lv_iload_n hx hb dX4_clear_1 rfl (lv_at hl 1 rfl) ?_
  refine lv_bipush (v := nI 64) hx hb dX4_clear_2 (by decide) ?_
  refine x_mmin hx hb (by rw [hml]; exact hl.1.symm) hown m19a mminb mMath mminc (by decide) (Nat.le_of_ble_eq_true rfl) (by decide) (by decide) (by omega) (by omega) dX4_clear_4 ?_
  refine x_top (y := nI k) (by rw [Nat.min_eq_left hk1]) ?_
  refine va_put (D := (dC, dI)) (ci := 4) (v := .int (nI k)) (ty := .int) (C := RX4) (T := TX4) (N := 2) hx hb hts in_X4 tyX4 tyX4_ok nmX4 hown hK hP hD hS k0 (hW.1 _ _) rfl 1 (by decide) f25 (fun _ h9 => h9) rfl (by decide +kernel) rfl rfl (Nat.le_of_ble_eq_true rfl) dX4_clear_7 (fun H locs hP hD hS => ?_)
  have hP := x_wP (hW.2.2.1 _ _ k) hP
  have hD := x_wD (hW.2.2.1 _ _ k) hD
  have hP : va_P (dC, dI) vwCl (Wn k u) H := hP
  have hD : va_D A (Wn k u) := hD
  refine lv_aload_n hx hb dX4_clear_10 rfl (lv_at hl 0 rfl) ?_
  refine lv_iconst (v := nI 0) hx hb dX4_clear_11 (by decide) ?_
  refine lv_aload_n hx hb dX4_clear_12 rfl (lv_at hl 0 rfl) ?_
  refine va_get (D := (dC, dI)) (ci := 4) (v := .int (nI k)) (C := RX4) (T := TX4) (N := 2) hx hb hts in_X4 hown hK hP k0 (hW.1 _ _) rfl 1 (by decide) f25 (fun _ h9 => h9) rfl dX4_clear_13 ?_
  refine lv_iconst (v := nI 0) hx hb dX4_clear_16 (by decide) ?_
  refine x_callv (va_runV (As := [.int (nI 0), .int (nI k), .int (nI 0)]) (rest := []) ⟨hx, hb, hml, hown, hts⟩ (c_Us_mark (okUn_U hW k) ht (by omega) u hu 0 k 0 (by omega) (by omega)) (cwV 3 hts (tbV tw_129 tw_131 tw_1 tw_86 tw_132) rfl rfl rfl (by decide +kernel) ⟨Nat.le_of_ble_eq_true rfl, Nat.le_of_ble_eq_true rfl⟩) ⟨x_blind, va_recv hK hP (ci := 4) (q0 := k0) rfl (hW.1 _ _), x_pre hK hP hD hN⟩ rfl rfl hl.1 rfl (lv_room (Nat.le_of_ble_eq_true rfl)) dX4_clear_17 ⟨Nat.zero_le _, Nat.zero_le _⟩) hS (fun H locs hP hD hS => ?_)
  have hP : va_P (dC, dI) vwCl (Wn k (umk k 0 0 k u 0)) H := hP
  have hD : va_D A (Wn k (umk k 0 0 k u 0)) := hD
  refine lv_aload_n hx hb dX4_clear_20 rfl (lv_at hl 0 rfl) ?_
  refine lv_iconst (v := nI 0) hx hb dX4_clear_21 (by decide) ?_
  refine lv_iconst (v := nI 2) hx hb dX4_clear_22 (by decide) ?_
  refine lv_iconst (v := nI 3) hx hb dX4_clear_23 (by decide) ?_
  refine x_callv (va_runV (As := [.int (nI 0), .int (nI 2), .int (nI 3)]) (rest := []) ⟨hx, hb, hml, hown, hts⟩ (c_Us_mark (okUn_U hW k) ht (by omega) (umk k 0 0 k u 0) (umk_lt hu (by decide)) 0 2 3 (by omega) (by omega)) (cwV 3 hts (tbV tw_129 tw_131 tw_1 tw_86 tw_132) rfl rfl rfl (by decide +kernel) ⟨Nat.le_of_ble_eq_true rfl, Nat.le_of_ble_eq_true rfl⟩) ⟨x_blind, va_recv hK hP (ci := 4) (q0 := k0) rfl (hW.1 _ _), x_pre hK hP hD hN⟩ rfl rfl hl.1 rfl (lv_room (Nat.le_of_ble_eq_true rfl)) dX4_clear_24 ⟨Nat.zero_le _, Nat.zero_le _⟩) hS (fun H locs hP hD hS => ?_)
  have hP : va_P (dC, dI) vwCl (Wn k (umk k 0 3 2 (umk k 0 0 k u 0) 0)) H := hP
  have hD : va_D A (Wn k (umk k 0 3 2 (umk k 0 0 k u 0) 0)) := hD
  have e1 : (umk k 0 3 2 (umk k 0 0 k u 0) 0) = (uclr k u) := by rfl
  have h9 : Wn k (umk k 0 3 2 (umk k 0 0 k u 0) 0) = Wn k (uclr k u) := by rw [e1]
  have hP := x_wP h9 hP
  have hD := x_wD h9 hD
  exact hret dX4_clear_27 hP hD hS
end
section

def tyS (cB cI cL : ClassId) : List (ClassId × FieldType) := [(cB, .byte), (cI, .int), (cL, .long)]
theorem tyS_B (cB cI cL : ClassId) : (tyS cB cI cL)[0]? = some (cB, .byte) := rfl
theorem tyS_I (cB cI cL : ClassId) : (tyS cB cI cL)[1]? = some (cI, .int) := rfl
theorem tyS_L (cB cI cL : ClassId) : (tyS cB cI cL)[2]? = some (cL, .long) := rfl
/-- the class's cells: the object itself, disk, uses, queue, table, the two heads -/
def wS (a : Nat → Nat) (cB cI cL : ClassId) (h1 h2 s1 s2 : Nat) (op : Bool) (nx wt sf lf dn : Nat) (dg : Nat → Nat) (un : Nat) (ug : Nat → Nat) (qn : Nat) (qt qg : Nat → Nat) (tn : Nat) (tk tv : Nat → Int64) (ts : Nat → Nat) (ef eg ex : Nat) (eF : Nat → Nat) (pf pg px : Nat) (pF : Nat → Nat) : va_W :=
  [(a 0, .inr (5, [.ref (a 1), .ref (a 3), .ref (a 5), .ref (a 9), .ref h1, .ref s1, .int (bI op), .int (nI nx), .int (nI wt), .int (nI sf), .int (nI lf)])),
   (a 1, .inr (0, [.ref (a 2), .int (nI dn)])), (a 2, .inl (cB, 4096, .inl (fun j => sb_b (dg j)))),
   (a 3, .inr (4, [.ref (a 4), .int (nI un)])), (a 4, .inl (cI, 64, .inl (fun j => nI (ug j)))),
   (a 5, .inr (2, [.ref (a 6), .ref (a 8), .int (nI qn)])), (a 6, .inr (0, [.ref (a 7), .int (nI 64)])), (a 7, .inl (cB, 4096, .inl (fun j => sb_b (qg j)))), (a 8, .inl (cI, 64, .inl (fun j => nI (qt j)))),
   (a 9, .inr (3, [.ref (a 10), .ref (a 11), .ref (a 12), .int (nI tn)])), (a 10, .inl (cL, 192, .inr (.inl tk))), (a 11, .inl (cL, 192, .inr (.inl tv))), (a 12, .inl (cI, 192, .inl (fun j => nI (ts j)))),
   (h1, .inr (1, [.ref h2, .int (nI ef), .int (nI eg), .int (nI ex)])), (h2, .inl (cI, 20, .inl (fun j => nI (eF j)))),
   (s1, .inr (1, [.ref s2, .int (nI pf), .int (nI pg), .int (nI px)])), (s2, .inl (cI, 20, .inl (fun j => nI (pF j))))]
/-- the same as wS, with the object's two head references apart from the heads' own addresses -/
def wX (a : Nat → Nat) (cB cI cL : ClassId) (r1 r2 h1 h2 s1 s2 : Nat) (op : Bool) (nx wt sf lf dn : Nat) (dg : Nat → Nat) (un : Nat) (ug : Nat → Nat) (qn : Nat) (qt qg : Nat → Nat) (tn : Nat) (tk tv : Nat → Int64) (ts : Nat → Nat) (ef eg ex : Nat) (eF : Nat → Nat) (pf pg px : Nat) (pF : Nat → Nat) : va_W :=
  [(a 0, .inr (5, [.ref (a 1), .ref (a 3), .ref (a 5), .ref (a 9), .ref r1, .ref r2, .int (bI op), .int (nI nx), .int (nI wt), .int (nI sf), .int (nI lf)])),
   (a 1, .inr (0, [.ref (a 2), .int (nI dn)])), (a 2, .inl (cB, 4096, .inl (fun j => sb_b (dg j)))),
   (a 3, .inr (4, [.ref (a 4), .int (nI un)])), (a 4, .inl (cI, 64, .inl (fun j => nI (ug j)))),
   (a 5, .inr (2, [.ref (a 6), .ref (a 8), .int (nI qn)])), (a 6, .inr (0, [.ref (a 7), .int (nI 64)])), (a 7, .inl (cB, 4096, .inl (fun j => sb_b (qg j)))), (a 8, .inl (cI, 64, .inl (fun j => nI (qt j)))),
   (a 9, .inr (3, [.ref (a 10), .ref (a 11), .ref (a 12), .int (nI tn)])), (a 10, .inl (cL, 192, .inr (.inl tk))), (a 11, .inl (cL, 192, .inr (.inl tv))), (a 12, .inl (cI, 192, .inl (fun j => nI (ts j)))),
   (h1, .inr (1, [.ref h2, .int (nI ef), .int (nI eg), .int (nI ex)])), (h2, .inl (cI, 20, .inl (fun j => nI (eF j)))),
   (s1, .inr (1, [.ref s2, .int (nI pf), .int (nI pg), .int (nI px)])), (s2, .inl (cI, 20, .inl (fun j => nI (pF j))))]

def xin (n : Nat) (x : Int32) : Bool := decide (0 ≤ x.toInt ∧ x.toInt < n)
theorem xin_t {n : Nat} {x : Int32} (hn : n ≤ 192) (c1 : ¬ x < 0) (c9 : ¬ nI n ≤ x) (_ : ¬ nI 192 ≤ x) : nI 1 = bI (xin n x) := by
  have h0 : (0 : Int32).toInt = 0 := rfl
  rw [Int32.lt_iff_toInt_lt, h0] at c1
  rw [Int32.le_iff_toInt_le, nI_toInt (by omega)] at c9
  have h : xin n x = true := by
    unfold xin
    exact decide_eq_true (by omega)
  rw [h]
  rfl
theorem xin_f {n : Nat} {x : Int32} (h : x < 0 ∨ nI n ≤ x ∨ nI 192 ≤ x) (hn : n ≤ 192) : nI 0 = bI (xin n x) := by
  have h0 : (0 : Int32).toInt = 0 := rfl
  rw [Int32.lt_iff_toInt_lt, Int32.le_iff_toInt_le, Int32.le_iff_toInt_le, h0, nI_toInt (show n < 2 ^ 31 by omega), nI_toInt (show 192 < 2 ^ 31 by decide)] at h
  have h : xin n x = false := by
    unfold xin
    exact decide_eq_false (by omega)
  rw [h]
  rfl
theorem xin_nI {n i : Nat} (hi : i < 2 ^ 31) : xin n (nI i) = decide (i < n) := by
  unfold xin
  rw [nI_toInt hi]
  apply decide_eq_decide.mpr
  omega
theorem xin_d {n : Nat} {x : Int32} (hn : n < 2 ^ 31) (h : xin n x = true) : ∃ i : Nat, i < n ∧ x = nI i := by
  have h := of_decide_eq_true h
  exact vp_in_of (n := n) (vp_in_iff.mpr ⟨h.1, h.2⟩) hn
theorem tup_le (f : Nat → Int64) (x : Int64) : ∀ (k i : Nat), i ≤ tup f x k i ∧ tup f x k i ≤ i + k
  | 0, i => ⟨Nat.le_refl _, Nat.le_refl _⟩
  | k + 1, i => by
    rw [tup]
    split
    · omega
    · have := tup_le f x k (i + 1)
      omega
theorem tbe_le (f : Nat → Int64) (x : Int64) : ∀ (k i : Nat), i ≤ tbe f x k i ∧ tbe f x k i ≤ i + k
  | 0, i => ⟨Nat.le_refl _, Nat.le_refl _⟩
  | k + 1, i => by
    rw [tbe]
    split
    · omega
    · have := tbe_le f x k (i + 1)
      omega
theorem shf_lt {M : Nat} : ∀ {k : Nat} {f : Nat → Nat} (_ : ∀ j, f j < M) {i : Nat}, ∀ j, shf k f i j < M
  | 0, _, hf, _ => hf
  | _ + 1, _, hf, _ => shf_lt (va_up_lt hf (hf _))
theorem tset_lt : ∀ {k : Nat} {f : Nat → Nat} (_ : ∀ j, f j < 2 ^ 31) {i : Nat}, ∀ j, tset k f i j < 2 ^ 31
  | 0, _, hf, _ => hf
  | _ + 1, _, hf, _ => tset_lt (va_up_lt hf (by decide))
def qtr (n : Nat) (t : Nat → Nat) (x : Int32) : Int32 := if xin n x = true then nI (t x.toNatClampNeg) else -2
theorem qtr_t {n : Nat} {t : Nat → Nat} {j : Nat} (hj : j < n) (hn : n ≤ 64) : qtr n t (nI j) = nI (t j) := by
  unfold qtr
  rw [if_pos (by rw [xin_nI (by omega)]; exact decide_eq_true hj), nI_clamp (by omega)]
theorem qtr_f {n : Nat} {t : Nat → Nat} {x : Int32} (h : x < 0 ∨ nI n ≤ x ∨ nI 64 ≤ x) (hn : n ≤ 64) : -2 = qtr n t x := by
  have h0 : (0 : Int32).toInt = 0 := rfl
  rw [Int32.lt_iff_toInt_lt, Int32.le_iff_toInt_le, Int32.le_iff_toInt_le, h0, nI_toInt (show n < 2 ^ 31 by omega), nI_toInt (show 64 < 2 ^ 31 by decide)] at h
  unfold qtr
  rw [if_neg]
  intro q
  have q := of_decide_eq_true q
  omega
theorem qtr_in {n : Nat} {x : Int32} (c1 : ¬ x < 0) (c9 : ¬ nI n ≤ x) (hn : n ≤ 64) : ∃ j : Nat, j < n ∧ x = nI j := by
  have h0 : (0 : Int32).toInt = 0 := rfl
  rw [Int32.lt_iff_toInt_lt, h0] at c1
  rw [Int32.le_iff_toInt_le, nI_toInt (by omega)] at c9
  exact vp_in_of (n := n) (vp_in_iff.mpr ⟨by omega, by omega⟩) (by omega)
def qap (n : Nat) (g : Nat → Nat) (so pa : Nat) : Nat → Nat := bput 64 (bput 64 (wipG 64 n g) n 0 so) n 1 pa
theorem qap_lt {n : Nat} {g : Nat → Nat} (hg : ∀ j, g j < 256) {so pa : Nat} : ∀ j, qap n g so pa j < 256 := bput_lt (bput_lt (wipG_lt hg))
def qsl (i : Nat) (t g : Nat → Nat) : Nat → Nat := pnum 64 i 8 g 56 (uL (smG 64 g i (t i)))
theorem qsl_lt {i : Nat} {t g : Nat → Nat} (hg : ∀ j, g j < 256) : ∀ j, qsl i t g j < 256 := pnum_lt hg
theorem qdr_lt {dn : Nat} {t g : Nat → Nat} : ∀ {k i : Nat} {d : Nat → Nat} (_ : ∀ j, d j < 256) (_ : ∀ j, g j < 256), ∀ j, qdr dn t g k i d j < 256
  | 0, _, _, hd, _ => hd
  | k + 1, i, _, hd, hg => qdr_lt (k := k) (i := i + 1) (bput_lt hd) hg

abbrev TS : Type := Nat × (Nat → Int64) × (Nat → Int64) × (Nat → Nat)
def tI (T : TS) (k v : Int64) (q : Nat) : TS := if T.1 < 192 then (T.1 + 1, tpl (tup T.2.1 k T.1 0) T.1 T.2.1 k, tpl (tup T.2.1 k T.1 0) T.1 T.2.2.1 v, tpl (tup T.2.1 k T.1 0) T.1 T.2.2.2 q) else T
def rdR (dn : Nat) (dg : Nat → Nat) (b p q : Nat) (T : TS) : TS := tI T (lN (num dn dg b 8 (8 + p * 16))) (lN (num dn dg b 8 (8 + p * 16 + 8))) q
def plc (nx wt q : Nat) : Nat := if q = 0 then 0 else if q < nx - wt then 1 else 2
theorem plc_lt {nx wt q : Nat} : plc nx wt q < 3 := by
  unfold plc
  split
  · decide
  · split <;> decide
def sbw (un : Nat) (ug qt : Nat → Nat) (qn eg b : Nat) : Bool := if uof un ug b = 1 then !(qhol qt b qn 0) else if uof un ug b = 2 then true else if uof un ug b = 3 then decide (0 < eg ∧ eg % 2 = b) else false
def cnO (un : Nat) (ug : Nat → Nat) (ef tn wt qn eg nx lf w : Nat) : Nat := if w = 1 then uhm 0 ug un 0 0 else if w = 2 then ef else if w = 3 then tn else if w = 4 then wt else if w = 5 then uhm 1 ug un 0 0 else if w = 6 then qn else if w = 7 then eg else if w = 8 then nx else if w = 9 then 1 else lf
def qrec (s p : Nat) (k v : Int64) (g : Nat → Nat) : Nat → Nat := pnum 64 s 8 (pnum 64 s 8 g (8 + p * 16) (uL k)) (8 + p * 16 + 8) (uL v)
theorem qrec_lt {s p : Nat} {k v : Int64} {g : Nat → Nat} (hg : ∀ j, g j < 256) : ∀ j, qrec s p k v g j < 256 := pnum_lt (pnum_lt hg)
def ifb (dn : Nat) (dg : Nat → Nat) (ef : Nat) (eF : Nat → Nat) (i p : Nat) : Bool := decide (whole dn dg (hfl ef eF i 1 + p) = true ∧ bv dn dg (hfl ef eF i 1 + p) 0 = 2 ∧ bv dn dg (hfl ef eF i 1 + p) 1 = min 3 (hfl ef eF i 3 - p * 3) ∧ num dn dg (hfl ef eF i 1 + p) 2 2 = hfl ef eF i 0 ∧ num dn dg (hfl ef eF i 1 + p) 2 4 = p ∧ num dn dg (hfl ef eF i 1 + p) 2 6 = hfl ef eF i 2)
theorem ifb_t {dn : Nat} {dg : Nat → Nat} {ef : Nat} {eF : Nat → Nat} {i p : Nat} (h : whole dn dg (hfl ef eF i 1 + p) = true ∧ bv dn dg (hfl ef eF i 1 + p) 0 = 2 ∧ bv dn dg (hfl ef eF i 1 + p) 1 = min 3 (hfl ef eF i 3 - p * 3) ∧ num dn dg (hfl ef eF i 1 + p) 2 2 = hfl ef eF i 0 ∧ num dn dg (hfl ef eF i 1 + p) 2 4 = p ∧ num dn dg (hfl ef eF i 1 + p) 2 6 = hfl ef eF i 2) : nI 1 = bI (ifb dn dg ef eF i p) := by
  rw [ifb, decide_eq_true h]; rfl
theorem ifb_f {dn : Nat} {dg : Nat → Nat} {ef : Nat} {eF : Nat → Nat} {i p : Nat} (h : ¬ (whole dn dg (hfl ef eF i 1 + p) = true ∧ bv dn dg (hfl ef eF i 1 + p) 0 = 2 ∧ bv dn dg (hfl ef eF i 1 + p) 1 = min 3 (hfl ef eF i 3 - p * 3) ∧ num dn dg (hfl ef eF i 1 + p) 2 2 = hfl ef eF i 0 ∧ num dn dg (hfl ef eF i 1 + p) 2 4 = p ∧ num dn dg (hfl ef eF i 1 + p) 2 6 = hfl ef eF i 2)) : nI 0 = bI (ifb dn dg ef eF i p) := by
  rw [ifb, decide_eq_false h]; rfl
def nlb (dn : Nat) (dg : Nat → Nat) (un : Nat) (ug : Nat → Nat) (nx : Nat) : Nat → Nat → Option Nat
  | 0, _ => none
  | k + 1, b => if uof un ug b = 4 ∧ 1 ≤ bv dn dg b 1 ∧ bv dn dg b 1 ≤ 3 ∧ num dn dg b 6 2 = nx then some b else nlb dn dg un ug nx k (b + 1)
def fwI (dn : Nat) (dg : Nat → Nat) (ef : Nat) (eF : Nat → Nat) (i : Nat) : Nat → Nat → Option Nat
  | 0, _ => none
  | k + 1, p => if ifb dn dg ef eF i p = true then fwI dn dg ef eF i k (p + 1) else some (hfl ef eF i 1 + p)
def fwO (dn : Nat) (dg : Nat → Nat) (ef : Nat) (eF : Nat → Nat) : Nat → Nat → Option Nat
  | 0, _ => none
  | k + 1, i => match fwI dn dg ef eF i (hfl ef eF i 2) 0 with
    | some b => some b
    | none => fwO dn dg ef eF k (i + 1)
def rlI (dn : Nat) (dg : Nat → Nat) (b nx : Nat) : Nat → Nat → TS → TS
  | 0, _, T => T
  | k + 1, j, T => rlI dn dg b nx k (j + 1) (rdR dn dg b j (nx + j) T)
def wol (dn un : Nat) (ug : Nat → Nat) : Nat → Nat → (Nat → Nat) → Nat → Nat
  | 0, _, g => g
  | k + 1, b, g => wol dn un ug k (b + 1) (if uof un ug b = 4 then wipG dn b g else g)
def mol (dn : Nat) (dg : Nat → Nat) (un : Nat) : Nat → Nat → (Nat → Nat) → Nat → Nat
  | 0, _, u => u
  | k + 1, b, u => mol dn dg un k (b + 1) (if uof un u b = 0 ∧ whole dn dg b = true ∧ bv dn dg b 0 = 1 then umk un b 4 1 u 0 else u)
abbrev RS : Type := TS × Nat × (Nat → Nat)
def rlS (dn : Nat) (dg : Nat → Nat) (un b : Nat) (S : RS) : RS := (rlI dn dg b S.2.1 (bv dn dg b 1) 0 S.1, S.2.1 + bv dn dg b 1, umk un b 1 1 S.2.2 0)
def rpl (dn : Nat) (dg : Nat → Nat) (un : Nat) : Nat → RS → RS
  | 0, S => S
  | k + 1, S => match nlb dn dg un S.2.2 S.2.1 (dn - 2) 2 with
    | none => S
    | some b => rpl dn dg un k (rlS dn dg un b S)
def rfI (dn : Nat) (dg : Nat → Nat) (b : Nat) : Nat → Nat → TS → TS
  | 0, _, T => T
  | k + 1, j, T => rfI dn dg b k (j + 1) (rdR dn dg b j 0 T)
def rfO (dn : Nat) (dg : Nat → Nat) (y r : Nat) : Nat → Nat → TS → TS
  | 0, _, T => T
  | k + 1, p, T => rfO dn dg y r k (p + 1) (rfI dn dg (y + p) (min 3 (r - p * 3)) 0 T)
theorem tI_lt {T : TS} {k v : Int64} {q : Nat} (h : ∀ j, T.2.2.2 j < 2 ^ 31) (hq : q < 2 ^ 31) : ∀ j, (tI T k v q).2.2.2 j < 2 ^ 31 := by
  unfold tI
  split
  · exact va_up_lt (shf_lt h) hq
  · exact h
theorem tI_le {T : TS} {k v : Int64} {q : Nat} (h : T.1 ≤ 192) : (tI T k v q).1 ≤ 192 := by
  unfold tI
  split
  · show T.1 + 1 ≤ 192
    omega
  · exact h
theorem rdR_lt {dn : Nat} {dg : Nat → Nat} {b p q : Nat} {T : TS} (h : ∀ j, T.2.2.2 j < 2 ^ 31) (hq : q < 2 ^ 31) : ∀ j, (rdR dn dg b p q T).2.2.2 j < 2 ^ 31 := tI_lt h hq
theorem rdR_le {dn : Nat} {dg : Nat → Nat} {b p q : Nat} {T : TS} (h : T.1 ≤ 192) : (rdR dn dg b p q T).1 ≤ 192 := tI_le h
theorem rlI_lt {dn : Nat} {dg : Nat → Nat} {b nx : Nat} (hn : nx < 2 ^ 30) : ∀ {k j : Nat} {T : TS} (_ : ∀ j, T.2.2.2 j < 2 ^ 31) (_ : k + j < 2 ^ 30), ∀ j', (rlI dn dg b nx k j T).2.2.2 j' < 2 ^ 31
  | 0, _, _, h, _ => h
  | k + 1, j, _, h, hk => rlI_lt hn (k := k) (j := j + 1) (rdR_lt h (by omega)) (by omega)
theorem rfI_lt {dn : Nat} {dg : Nat → Nat} {b : Nat} : ∀ {k j : Nat} {T : TS} (_ : ∀ j, T.2.2.2 j < 2 ^ 31), ∀ j', (rfI dn dg b k j T).2.2.2 j' < 2 ^ 31
  | 0, _, _, h => h
  | k + 1, j, _, h => rfI_lt (k := k) (j := j + 1) (rdR_lt h (by decide))
theorem rfO_lt {dn : Nat} {dg : Nat → Nat} {y r : Nat} : ∀ {k p : Nat} {T : TS} (_ : ∀ j, T.2.2.2 j < 2 ^ 31), ∀ j', (rfO dn dg y r k p T).2.2.2 j' < 2 ^ 31
  | 0, _, _, h => h
  | k + 1, p, _, h => rfO_lt (k := k) (p := p + 1) (rfI_lt h)
theorem wol_lt {dn un : Nat} {ug : Nat → Nat} : ∀ {k b : Nat} {g : Nat → Nat} (_ : ∀ j, g j < 256), ∀ j, wol dn un ug k b g j < 256
  | 0, _, _, h => h
  | k + 1, b, g, h => by
    rw [wol]
    refine wol_lt ?_
    split
    · exact wipG_lt h
    · exact h
theorem mol_lt {dn : Nat} {dg : Nat → Nat} {un : Nat} : ∀ {k b : Nat} {u : Nat → Nat} (_ : ∀ j, u j < 8), ∀ j, mol dn dg un k b u j < 8
  | 0, _, _, h => h
  | k + 1, b, u, h => by
    rw [mol]
    refine mol_lt ?_
    split
    · exact umk_lt h (by decide)
    · exact h
theorem rlI_le {dn : Nat} {dg : Nat → Nat} {b nx : Nat} : ∀ {k j : Nat} {T : TS} (_ : T.1 ≤ 192), (rlI dn dg b nx k j T).1 ≤ 192
  | 0, _, _, h => h
  | k + 1, j, _, h => rlI_le (k := k) (j := j + 1) (rdR_le h)
theorem rfI_le {dn : Nat} {dg : Nat → Nat} {b : Nat} : ∀ {k j : Nat} {T : TS} (_ : T.1 ≤ 192), (rfI dn dg b k j T).1 ≤ 192
  | 0, _, _, h => h
  | k + 1, j, _, h => rfI_le (k := k) (j := j + 1) (rdR_le h)
theorem rfO_le {dn : Nat} {dg : Nat → Nat} {y r : Nat} : ∀ {k p : Nat} {T : TS} (_ : T.1 ≤ 192), (rfO dn dg y r k p T).1 ≤ 192
  | 0, _, _, h => h
  | k + 1, p, _, h => rfO_le (k := k) (p := p + 1) (rfI_le h)
theorem oI_none {o : Option Nat} (h : oI o = -2) (hb : ∀ b, o = some b → b < 2 ^ 31) : o = none := by
  cases o with
  | none => rfl
  | some b =>
    have h2 : nI b = -2 := h
    exact absurd h2 (fun q => absurd (by rw [q]; decide) (nI_pos (hb b rfl)))
theorem oI_some {o : Option Nat} (h : ¬ oI o = -2) : ∃ b, o = some b := by
  cases o with
  | none => exact absurd rfl h
  | some b => exact ⟨b, rfl⟩
theorem nlb_lt {dn : Nat} {dg : Nat → Nat} {un : Nat} {ug : Nat → Nat} {nx : Nat} : ∀ {k b c : Nat}, nlb dn dg un ug nx k b = some c → b ≤ c ∧ c < b + k
  | 0, _, _, h => by cases h
  | k + 1, b, c, h => by
    rw [nlb] at h
    split at h
    · cases h; omega
    · have := nlb_lt h
      omega
end
section
set_option maxHeartbeats 4000000 in
set_option maxRecDepth 100000 in
theorem c_Ta_clear {l : Launch} {dC : Nat → ClassId} {dI : Nat → Nat → Nat} {A : Nat → Prop} {a : Nat → Nat} {cB cI cL : ClassId} {h1 h2 s1 s2 : Nat} {op : Bool} {nx wt sf lf dn : Nat} {dg : Nat → Nat} {un : Nat} {ug : Nat → Nat} {qn : Nat} {qt qg : Nat → Nat} {tn : Nat} {tk tv : Nat → Int64} {ts : Nat → Nat} {ef eg ex : Nat} {eF : Nat → Nat} {pf pg px : Nat} {pF : Nat → Nat} : Met l yX3_clear (Cond.code yX3_clear cX3_clear 1 none :: TB) { frames := 0, cells := 0, slots := 0, locals := 0 } (xPre Nst (dC, dI) A (tyS cB cI cL) (wS a cB cI cL h1 h2 s1 s2 op nx wt sf lf dn dg un ug qn qt qg tn tk tv ts ef eg ex eF pf pg px pF) [.ref (a 9)]) (xQv (dC, dI) A (wS a cB cI cL h1 h2 s1 s2 op nx wt sf lf dn dg un ug qn qt qg 0 tk tv ts ef eg ex eF pf pg px pF)) 0 0 A := by
  refine x_ofWv (cc := cX3_clear) (maxL := 1) (by decide) rfl (Nat.le_of_ble_eq_true rfl) ?_
  intro p e s m args below meth c Q hx hb hml hts hown hK hN hP hD hS hret ls hl
  have hl : lv_has ls 1 [(0, .ref (a 9))] := hl
  have hown : s.vm.findClass RX3 = some m.cls := hown
  have f22 := hts _ (List.mem_cons_of_mem _ tw_170)
  have in_X3 := (fun q hq => List.mem_cons_of_mem _ (inX3 q hq) : ∀ q ∈ wsX30, q ∈ (Cond.code yX3_clear cX3_clear 1 none :: TB))
  refine lv_aload_n hx hb dX3_clear_0 rfl (lv_at hl 0 rfl) ?_
  refine lv_iconst (v := nI 0) hx hb dX3_clear_1 (by decide) ?_
  refine va_put (D := (dC, dI)) (ci := 3) (v := .int (nI 0)) (ty := .int) (C := RX3) (T := TX3) (N := 4) hx hb hts in_X3 tyX3 tyX3_ok nmX3 hown hK hP hD hS 9 rfl rfl 3 (by decide) f22 (fun _ h9 => h9) rfl (by decide +kernel) rfl rfl (Nat.le_of_ble_eq_true rfl) dX3_clear_2 (fun H locs hP hD hS => ?_)
  have hP : va_P (dC, dI) vwCl (wS a cB cI cL h1 h2 s1 s2 op nx wt sf lf dn dg un ug qn qt qg 0 tk tv ts ef eg ex eF pf pg px pF) H := hP
  have hD : va_D A (wS a cB cI cL h1 h2 s1 s2 op nx wt sf lf dn dg un ug qn qt qg 0 tk tv ts ef eg ex eF pf pg px pF) := hD
  exact hret dX3_clear_5 hP hD hS

set_option maxHeartbeats 4000000 in
set_option maxRecDepth 100000 in
theorem c_Ta_has {l : Launch} {dC : Nat → ClassId} {dI : Nat → Nat → Nat} {A : Nat → Prop} {a : Nat → Nat} {cB cI cL : ClassId} {h1 h2 s1 s2 : Nat} {op : Bool} {nx wt sf lf dn : Nat} {dg : Nat → Nat} {un : Nat} {ug : Nat → Nat} {qn : Nat} {qt qg : Nat → Nat} {tn : Nat} {tk tv : Nat → Int64} {ts : Nat → Nat} {ef eg ex : Nat} {eF : Nat → Nat} {pf pg px : Nat} {pF : Nat → Nat} (hn : tn ≤ 192) (x : Int32) : Met l yX3_has (Cond.code yX3_has cX3_has 2 (some .boolean) :: TB) { frames := 0, cells := 0, slots := 0, locals := 0 } (xPre Nst (dC, dI) A (tyS cB cI cL) (wS a cB cI cL h1 h2 s1 s2 op nx wt sf lf dn dg un ug qn qt qg tn tk tv ts ef eg ex eF pf pg px pF) [.ref (a 9), .int (x)]) (xQi (dC, dI) A (bI (xin tn x)) (wS a cB cI cL h1 h2 s1 s2 op nx wt sf lf dn dg un ug qn qt qg tn tk tv ts ef eg ex eF pf pg px pF)) 0 0 A := by
  refine x_ofWz (cc := cX3_has) (maxL := 2) (by decide) rfl (Nat.le_of_ble_eq_true rfl) (x_narZ _) ?_
  intro p e s m args below meth c Q hx hb hml hts hown hK hN hP hD hS hret ls hl
  have hl : lv_has ls 2 [(0, .ref (a 9)), (1, .int (x))] := hl
  have hown : s.vm.findClass RX3 = some m.cls := hown
  have f22 := hts _ (List.mem_cons_of_mem _ tw_170)
  have in_X3 := (fun q hq => List.mem_cons_of_mem _ (inX3 q hq) : ∀ q ∈ wsX30, q ∈ (Cond.code yX3_has cX3_has 2 (some .boolean) :: TB))
  refine lv_iload_n hx hb dX3_has_0 rfl (lv_at hl 1 rfl) ?_
  refine lv_if_lt (tgt := 23) hx hb dX3_has_1 (by decide) (fun c1 => ?_) (fun c1 => ?_)
  · refine lv_iconst (v := nI 0) hx hb dX3_has_23 (by decide) ?_
    exact hret dX3_has_24 (by first | exact xin_t hn c1 c9 c16 | exact xin_f (by first | exact Or.inl c1 | exact Or.inr (Or.inl c9) | exact Or.inr (Or.inr c16)) hn) hP hD hS
  · refine lv_iload_n hx hb dX3_has_4 rfl (lv_at hl 1 rfl) ?_
    refine lv_aload_n hx hb dX3_has_5 rfl (lv_at hl 0 rfl) ?_
    refine va_get (D := (dC, dI)) (ci := 3) (v := .int (nI tn)) (C := RX3) (T := TX3) (N := 4) hx hb hts in_X3 hown hK hP 9 rfl rfl 3 (by decide) f22 (fun _ h9 => h9) rfl dX3_has_6 ?_
    refine lv_icmp_ge (tgt := 23) hx hb dX3_has_9 (by decide) (fun c9 => ?_) (fun c9 => ?_)
    · refine lv_iconst (v := nI 0) hx hb dX3_has_23 (by decide) ?_
      exact hret dX3_has_24 (by first | exact xin_t hn c1 c9 c16 | exact xin_f (by first | exact Or.inl c1 | exact Or.inr (Or.inl c9) | exact Or.inr (Or.inr c16)) hn) hP hD hS
    · refine lv_iload_n hx hb dX3_has_12 rfl (lv_at hl 1 rfl) ?_
      refine lv_sipush (v := nI 192) hx hb dX3_has_13 (by decide) ?_
      refine lv_icmp_ge (tgt := 23) hx hb dX3_has_16 (by decide) (fun c16 => ?_) (fun c16 => ?_)
      · refine lv_iconst (v := nI 0) hx hb dX3_has_23 (by decide) ?_
        exact hret dX3_has_24 (by first | exact xin_t hn c1 c9 c16 | exact xin_f (by first | exact Or.inl c1 | exact Or.inr (Or.inl c9) | exact Or.inr (Or.inr c16)) hn) hP hD hS
      · refine lv_iconst (v := nI 1) hx hb dX3_has_19 (by decide) ?_
        refine lv_goto (tgt := 24) hx hb dX3_has_20 (by decide) ?_
        exact hret dX3_has_24 (by first | exact xin_t hn c1 c9 c16 | exact xin_f (by first | exact Or.inl c1 | exact Or.inr (Or.inl c9) | exact Or.inr (Or.inr c16)) hn) hP hD hS

set_option maxHeartbeats 4000000 in
set_option maxRecDepth 100000 in
theorem c_Ta_hasN {l : Launch} {dC : Nat → ClassId} {dI : Nat → Nat → Nat} {A : Nat → Prop} {a : Nat → Nat} {cB cI cL : ClassId} {h1 h2 s1 s2 : Nat} {op : Bool} {nx wt sf lf dn : Nat} {dg : Nat → Nat} {un : Nat} {ug : Nat → Nat} {qn : Nat} {qt qg : Nat → Nat} {tn : Nat} {tk tv : Nat → Int64} {ts : Nat → Nat} {ef eg ex : Nat} {eF : Nat → Nat} {pf pg px : Nat} {pF : Nat → Nat} (hn : tn ≤ 192) (i : Nat) (hi1 : i < 2 ^ 31) : Met l yX3_has (Cond.code yX3_has cX3_has 2 (some .boolean) :: TB) { frames := 0, cells := 0, slots := 0, locals := 0 } (xPre Nst (dC, dI) A (tyS cB cI cL) (wS a cB cI cL h1 h2 s1 s2 op nx wt sf lf dn dg un ug qn qt qg tn tk tv ts ef eg ex eF pf pg px pF) [.ref (a 9), .int (nI i)]) (xQi (dC, dI) A (bI (decide (i < tn))) (wS a cB cI cL h1 h2 s1 s2 op nx wt sf lf dn dg un ug qn qt qg tn tk tv ts ef eg ex eF pf pg px pF)) 0 0 A := by
  have h := c_Ta_has (l := l) (dC := dC) (dI := dI) (A := A) (a := a) (cB := cB) (cI := cI) (cL := cL) (h1 := h1) (h2 := h2) (s1 := s1) (s2 := s2) (op := op) (nx := nx) (wt := wt) (sf := sf) (lf := lf) (dn := dn) (dg := dg) (un := un) (ug := ug) (qn := qn) (qt := qt) (qg := qg) (tn := tn) (tk := tk) (tv := tv) (ts := ts) (ef := ef) (eg := eg) (ex := ex) (eF := eF) (pf := pf) (pg := pg) (px := px) (pF := pF) hn (nI i)
  rw [xin_nI hi1] at h
  exact h

set_option maxHeartbeats 4000000 in
set_option maxRecDepth 100000 in
theorem c_Ta_key {l : Launch} {dC : Nat → ClassId} {dI : Nat → Nat → Nat} {A : Nat → Prop} {a : Nat → Nat} {cB cI cL : ClassId} {h1 h2 s1 s2 : Nat} {op : Bool} {nx wt sf lf dn : Nat} {dg : Nat → Nat} {un : Nat} {ug : Nat → Nat} {qn : Nat} {qt qg : Nat → Nat} {tn : Nat} {tk tv : Nat → Int64} {ts : Nat → Nat} {ef eg ex : Nat} {eF : Nat → Nat} {pf pg px : Nat} {pF : Nat → Nat} (hn : tn ≤ 192) (i : Nat) (hi : i < tn) : Met l yX3_key (Cond.code yX3_key cX3_key 2 (some .long) :: TB) { frames := 1, cells := 0, slots := 0, locals := 21 } (xPre Nst (dC, dI) A (tyS cB cI cL) (wS a cB cI cL h1 h2 s1 s2 op nx wt sf lf dn dg un ug qn qt qg tn tk tv ts ef eg ex eF pf pg px pF) [.ref (a 9), .int (nI i)]) (xQl (dC, dI) A (tk i) (wS a cB cI cL h1 h2 s1 s2 op nx wt sf lf dn dg un ug qn qt qg tn tk tv ts ef eg ex eF pf pg px pF)) 0 0 A := by
  refine x_ofWl (cc := cX3_key) (maxL := 2) (by decide) rfl (Nat.le_of_ble_eq_true rfl) ?_
  intro p e s m args below meth c Q hx hb hml hts hown hK hN hP hD hS hret ls hl
  have hl : lv_has ls 2 [(0, .ref (a 9)), (1, .int (nI i))] := hl
  have hown : s.vm.findClass RX3 = some m.cls := hown
  have f9 := hts _ (List.mem_cons_of_mem _ tw_167)
  have in_X3 := (fun q hq => List.mem_cons_of_mem _ (inX3 q hq) : ∀ q ∈ wsX30, q ∈ (Cond.code yX3_key cX3_key 2 (some .long) :: TB))
  refine lv_aload_n hx hb dX3_key_0 rfl (lv_at hl 0 rfl) ?_
  refine lv_iload_n hx hb dX3_key_1 rfl (lv_at hl 1 rfl) ?_
  refine x_calli (va_runV (As := [.int (nI i)]) (rest := []) ⟨hx, hb, hml, hown, hts⟩ (c_Ta_hasN (by omega) i (by omega)) (cwV 1 hts (tbV tw_323 tw_325 tw_20 tw_89 tw_326) rfl rfl rfl (by decide +kernel) ⟨Nat.le_of_ble_eq_true rfl, Nat.le_of_ble_eq_true rfl⟩) ⟨x_blind, va_recv hK hP (ci := 3) (q0 := 9) rfl rfl, x_pre hK hP hD hN⟩ rfl rfl hl.1 rfl (lv_room (Nat.le_of_ble_eq_true rfl)) dX3_key_2 ⟨Nat.zero_le _, Nat.zero_le _⟩) hS (fun H locs hP hD hS => ?_)
  have hP : va_P (dC, dI) vwCl (wS a cB cI cL h1 h2 s1 s2 op nx wt sf lf dn dg un ug qn qt qg tn tk tv ts ef eg ex eF pf pg px pF) H := hP
  have hD : va_D A (wS a cB cI cL h1 h2 s1 s2 op nx wt sf lf dn dg un ug qn qt qg tn tk tv ts ef eg ex eF pf pg px pF) := hD
  refine x_if_eq_b (tgt := 17) hx hb dX3_key_5 (by decide) (fun c5 => ?_) (fun c5 => ?_)
  · exact absurd hi (of_decide_eq_false c5)
  · refine lv_aload_n hx hb dX3_key_8 rfl (lv_at hl 0 rfl) ?_
    refine va_get (D := (dC, dI)) (ci := 3) (v := .ref (a 10)) (C := RX3) (T := TX3) (N := 4) hx hb hts in_X3 hown hK hP 9 rfl rfl 0 (by decide) f9 (fun _ h9 => h9) rfl dX3_key_9 ?_
    refine lv_iload_n hx hb dX3_key_12 rfl (lv_at hl 1 rfl) ?_
    refine x_lald hx hb hK hP 10 2 rfl rfl (by omega) (by decide) dX3_key_13 ?_
    refine lv_goto (tgt := 18) hx hb dX3_key_14 (by decide) ?_
    exact hret dX3_key_18 (by rfl) hP hD hS

set_option maxHeartbeats 4000000 in
set_option maxRecDepth 100000 in
theorem c_Ta_value {l : Launch} {dC : Nat → ClassId} {dI : Nat → Nat → Nat} {A : Nat → Prop} {a : Nat → Nat} {cB cI cL : ClassId} {h1 h2 s1 s2 : Nat} {op : Bool} {nx wt sf lf dn : Nat} {dg : Nat → Nat} {un : Nat} {ug : Nat → Nat} {qn : Nat} {qt qg : Nat → Nat} {tn : Nat} {tk tv : Nat → Int64} {ts : Nat → Nat} {ef eg ex : Nat} {eF : Nat → Nat} {pf pg px : Nat} {pF : Nat → Nat} (hn : tn ≤ 192) (i : Nat) (hi : i < tn) : Met l yX3_value (Cond.code yX3_value cX3_value 2 (some .long) :: TB) { frames := 1, cells := 0, slots := 0, locals := 21 } (xPre Nst (dC, dI) A (tyS cB cI cL) (wS a cB cI cL h1 h2 s1 s2 op nx wt sf lf dn dg un ug qn qt qg tn tk tv ts ef eg ex eF pf pg px pF) [.ref (a 9), .int (nI i)]) (xQl (dC, dI) A (tv i) (wS a cB cI cL h1 h2 s1 s2 op nx wt sf lf dn dg un ug qn qt qg tn tk tv ts ef eg ex eF pf pg px pF)) 0 0 A := by
  refine x_ofWl (cc := cX3_value) (maxL := 2) (by decide) rfl (Nat.le_of_ble_eq_true rfl) ?_
  intro p e s m args below meth c Q hx hb hml hts hown hK hN hP hD hS hret ls hl
  have hl : lv_has ls 2 [(0, .ref (a 9)), (1, .int (nI i))] := hl
  have hown : s.vm.findClass RX3 = some m.cls := hown
  have f15 := hts _ (List.mem_cons_of_mem _ tw_168)
  have in_X3 := (fun q hq => List.mem_cons_of_mem _ (inX3 q hq) : ∀ q ∈ wsX30, q ∈ (Cond.code yX3_value cX3_value 2 (some .long) :: TB))
  refine lv_aload_n hx hb dX3_value_0 rfl (lv_at hl 0 rfl) ?_
  refine lv_iload_n hx hb dX3_value_1 rfl (lv_at hl 1 rfl) ?_
  refine x_calli (va_runV (As := [.int (nI i)]) (rest := []) ⟨hx, hb, hml, hown, hts⟩ (c_Ta_hasN (by omega) i (by omega)) (cwV 1 hts (tbV tw_323 tw_325 tw_20 tw_89 tw_326) rfl rfl rfl (by decide +kernel) ⟨Nat.le_of_ble_eq_true rfl, Nat.le_of_ble_eq_true rfl⟩) ⟨x_blind, va_recv hK hP (ci := 3) (q0 := 9) rfl rfl, x_pre hK hP hD hN⟩ rfl rfl hl.1 rfl (lv_room (Nat.le_of_ble_eq_true rfl)) dX3_value_2 ⟨Nat.zero_le _, Nat.zero_le _⟩) hS (fun H locs hP hD hS => ?_)
  have hP : va_P (dC, dI) vwCl (wS a cB cI cL h1 h2 s1 s2 op nx wt sf lf dn dg un ug qn qt qg tn tk tv ts ef eg ex eF pf pg px pF) H := hP
  have hD : va_D A (wS a cB cI cL h1 h2 s1 s2 op nx wt sf lf dn dg un ug qn qt qg tn tk tv ts ef eg ex eF pf pg px pF) := hD
  refine x_if_eq_b (tgt := 17) hx hb dX3_value_5 (by decide) (fun c5 => ?_) (fun c5 => ?_)
  · exact absurd hi (of_decide_eq_false c5)
  · refine lv_aload_n hx hb dX3_value_8 rfl (lv_at hl 0 rfl) ?_
    refine va_get (D := (dC, dI)) (ci := 3) (v := .ref (a 11)) (C := RX3) (T := TX3) (N := 4) hx hb hts in_X3 hown hK hP 9 rfl rfl 1 (by decide) f15 (fun _ h9 => h9) rfl dX3_value_9 ?_
    refine lv_iload_n hx hb dX3_value_12 rfl (lv_at hl 1 rfl) ?_
    refine x_lald hx hb hK hP 11 2 rfl rfl (by omega) (by decide) dX3_value_13 ?_
    refine lv_goto (tgt := 18) hx hb dX3_value_14 (by decide) ?_
    exact hret dX3_value_18 (by rfl) hP hD hS

set_option maxHeartbeats 4000000 in
set_option maxRecDepth 100000 in
theorem c_Ta_sequence {l : Launch} {dC : Nat → ClassId} {dI : Nat → Nat → Nat} {A : Nat → Prop} {a : Nat → Nat} {cB cI cL : ClassId} {h1 h2 s1 s2 : Nat} {op : Bool} {nx wt sf lf dn : Nat} {dg : Nat → Nat} {un : Nat} {ug : Nat → Nat} {qn : Nat} {qt qg : Nat → Nat} {tn : Nat} {tk tv : Nat → Int64} {ts : Nat → Nat} {ef eg ex : Nat} {eF : Nat → Nat} {pf pg px : Nat} {pF : Nat → Nat} (hn : tn ≤ 192) (i : Nat) (hi : i < tn) : Met l yX3_sequence (Cond.code yX3_sequence cX3_sequence 2 (some .int) :: TB) { frames := 1, cells := 0, slots := 0, locals := 21 } (xPre Nst (dC, dI) A (tyS cB cI cL) (wS a cB cI cL h1 h2 s1 s2 op nx wt sf lf dn dg un ug qn qt qg tn tk tv ts ef eg ex eF pf pg px pF) [.ref (a 9), .int (nI i)]) (xQi (dC, dI) A (nI (ts i)) (wS a cB cI cL h1 h2 s1 s2 op nx wt sf lf dn dg un ug qn qt qg tn tk tv ts ef eg ex eF pf pg px pF)) 0 0 A := by
  refine x_ofWi (cc := cX3_sequence) (maxL := 2) (by decide) rfl (Nat.le_of_ble_eq_true rfl) ?_
  intro p e s m args below meth c Q hx hb hml hts hown hK hN hP hD hS hret ls hl
  have hl : lv_has ls 2 [(0, .ref (a 9)), (1, .int (nI i))] := hl
  have hown : s.vm.findClass RX3 = some m.cls := hown
  have f18 := hts _ (List.mem_cons_of_mem _ tw_169)
  have in_X3 := (fun q hq => List.mem_cons_of_mem _ (inX3 q hq) : ∀ q ∈ wsX30, q ∈ (Cond.code yX3_sequence cX3_sequence 2 (some .int) :: TB))
  refine lv_aload_n hx hb dX3_sequence_0 rfl (lv_at hl 0 rfl) ?_
  refine lv_iload_n hx hb dX3_sequence_1 rfl (lv_at hl 1 rfl) ?_
  refine x_calli (va_runV (As := [.int (nI i)]) (rest := []) ⟨hx, hb, hml, hown, hts⟩ (c_Ta_hasN (by omega) i (by omega)) (cwV 1 hts (tbV tw_323 tw_325 tw_20 tw_89 tw_326) rfl rfl rfl (by decide +kernel) ⟨Nat.le_of_ble_eq_true rfl, Nat.le_of_ble_eq_true rfl⟩) ⟨x_blind, va_recv hK hP (ci := 3) (q0 := 9) rfl rfl, x_pre hK hP hD hN⟩ rfl rfl hl.1 rfl (lv_room (Nat.le_of_ble_eq_true rfl)) dX3_sequence_2 ⟨Nat.zero_le _, Nat.zero_le _⟩) hS (fun H locs hP hD hS => ?_)
  have hP : va_P (dC, dI) vwCl (wS a cB cI cL h1 h2 s1 s2 op nx wt sf lf dn dg un ug qn qt qg tn tk tv ts ef eg ex eF pf pg px pF) H := hP
  have hD : va_D A (wS a cB cI cL h1 h2 s1 s2 op nx wt sf lf dn dg un ug qn qt qg tn tk tv ts ef eg ex eF pf pg px pF) := hD
  refine x_if_eq_b (tgt := 17) hx hb dX3_sequence_5 (by decide) (fun c5 => ?_) (fun c5 => ?_)
  · exact absurd hi (of_decide_eq_false c5)
  · refine lv_aload_n hx hb dX3_sequence_8 rfl (lv_at hl 0 rfl) ?_
    refine va_get (D := (dC, dI)) (ci := 3) (v := .ref (a 12)) (C := RX3) (T := TX3) (N := 4) hx hb hts in_X3 hown hK hP 9 rfl rfl 2 (by decide) f18 (fun _ h9 => h9) rfl dX3_sequence_9 ?_
    refine lv_iload_n hx hb dX3_sequence_12 rfl (lv_at hl 1 rfl) ?_
    refine x_iald hx hb hK hP 12 1 rfl rfl (by omega) (by decide) dX3_sequence_13 ?_
    refine lv_goto (tgt := 18) hx hb dX3_sequence_14 (by decide) ?_
    exact hret dX3_sequence_18 (by rfl) hP hD hS

set_option maxHeartbeats 4000000 in
set_option maxRecDepth 100000 in
theorem c_Ta_upTo {l : Launch} {dC : Nat → ClassId} {dI : Nat → Nat → Nat} {A : Nat → Prop} {a : Nat → Nat} {cB cI cL : ClassId} {h1 h2 s1 s2 : Nat} {op : Bool} {nx wt sf lf dn : Nat} {dg : Nat → Nat} {un : Nat} {ug : Nat → Nat} {qn : Nat} {qt qg : Nat → Nat} {tn : Nat} {tk tv : Nat → Int64} {ts : Nat → Nat} {ef eg ex : Nat} {eF : Nat → Nat} {pf pg px : Nat} {pF : Nat → Nat} (hn : tn ≤ 192) (x : Int64) : Met l yX3_upTo (Cond.code yX3_upTo cX3_upTo 5 (some .int) :: TB) { frames := 0, cells := 0, slots := 0, locals := 0 } (xPre Nst (dC, dI) A (tyS cB cI cL) (wS a cB cI cL h1 h2 s1 s2 op nx wt sf lf dn dg un ug qn qt qg tn tk tv ts ef eg ex eF pf pg px pF) [.ref (a 9), .long (x)]) (xQi (dC, dI) A (nI (tup tk x tn 0)) (wS a cB cI cL h1 h2 s1 s2 op nx wt sf lf dn dg un ug qn qt qg tn tk tv ts ef eg ex eF pf pg px pF)) 0 0 A := by
  refine x_ofWi (cc := cX3_upTo) (maxL := 5) (by decide) rfl (Nat.le_of_ble_eq_true rfl) ?_
  intro p e s m args below meth c Q hx hb hml hts hown hK hN hP hD hS hret ls hl
  have hl : lv_has ls 5 [(0, .ref (a 9)), (1, .long (x))] := hl
  have hown : s.vm.findClass RX3 = some m.cls := hown
  have f22 := hts _ (List.mem_cons_of_mem _ tw_170)
  have in_X3 := (fun q hq => List.mem_cons_of_mem _ (inX3 q hq) : ∀ q ∈ wsX30, q ∈ (Cond.code yX3_upTo cX3_upTo 5 (some .int) :: TB))
  have f9 := hts _ (List.mem_cons_of_mem _ tw_167)
  refine lv_iconst (v := nI 0) hx hb dX3_upTo_0 (by decide) ?_
  refine lv_istore_n (lv' := [(3, .int (nI 0)), (0, .ref (a 9)), (1, .long (x))]) hx hb dX3_upTo_1 rfl hl (by decide) rfl (fun ls hl => ?_)
  refine lv_iconst (v := nI 0) hx hb dX3_upTo_2 (by decide) ?_
  refine lv_istore (lv' := [(4, .int (nI 0)), (3, .int (nI 0)), (0, .ref (a 9)), (1, .long (x))]) hx hb dX3_upTo_3 hl (by decide) rfl (fun ls hl => ?_)
  have L5 : ∀ (fu5 : Nat) (j : Nat), (tn - j < fu5) → (j ≤ tn) → (tup tk x (tn - j) j = tup tk x tn 0) → ∀ (H : Heap) (locs : List Loc), va_P (dC, dI) vwCl (wS a cB cI cL h1 h2 s1 s2 op nx wt sf lf dn dg un ug qn qt qg tn tk tv ts ef eg ex eF pf pg px pF) H → va_D A (wS a cB cI cL h1 h2 s1 s2 op nx wt sf lf dn dg un ug qn qt qg tn tk tv ts ef eg ex eF pf pg px pF) → va_S A s.heap H locs → ∀ (ls : Array Slot), lv_has ls 5 [(0, .ref (a 9)), (1, .long (x)), (3, .int (nI j)), (4, .int (nI j))] → W p l e { frames := 0, cells := 0, slots := 0, locals := 0 } s m args below meth c H locs 0 0 Q (F0 m 5 ls []) := by
    intro fu5
    induction fu5 with
    | zero => intro j hm; exact absurd hm (Nat.not_lt_zero _)
    | succ fu5 ih5 =>
      intro j hm i5_0 i5_1 H locs hP hD hS ls hl
      refine lv_iload hx hb dX3_upTo_5 (lv_at hl 3 rfl) ?_
      refine lv_aload_n hx hb dX3_upTo_7 rfl (lv_at hl 0 rfl) ?_
      refine va_get (D := (dC, dI)) (ci := 3) (v := .int (nI tn)) (C := RX3) (T := TX3) (N := 4) hx hb hts in_X3 hown hK hP 9 rfl rfl 3 (by decide) f22 (fun _ h9 => h9) rfl dX3_upTo_8 ?_
      refine x_icmp_ge (tgt := 35) hx hb dX3_upTo_11 (by decide) (by omega) (by omega) (fun c11 => ?_) (fun c11 => ?_)
      · refine lv_iload_n hx hb dX3_upTo_35 rfl (lv_at hl 2 rfl) ?_
        exact hret dX3_upTo_36 (by have h := i5_1; first | (rw [show tn - j = 0 by omega, tup] at h; rw [h]) | (rw [show tn - j = (tn - (j + 1)) + 1 by omega, tup, if_pos c23] at h; rw [h])) hP hD hS
      · refine lv_aload_n hx hb dX3_upTo_14 rfl (lv_at hl 0 rfl) ?_
        refine va_get (D := (dC, dI)) (ci := 3) (v := .ref (a 10)) (C := RX3) (T := TX3) (N := 4) hx hb hts in_X3 hown hK hP 9 rfl rfl 0 (by decide) f9 (fun _ h9 => h9) rfl dX3_upTo_15 ?_
        refine lv_iload hx hb dX3_upTo_18 (lv_at hl 3 rfl) ?_
        refine x_lald hx hb hK hP 10 2 rfl rfl (by omega) (by decide) dX3_upTo_20 ?_
        refine lv_lload_n hx hb dX3_upTo_21 rfl (lv_at hl 1 rfl) ?_
        refine W.lcmp hx hb dX3_upTo_22 ?_
        refine x_lif_gt (tgt := 35) hx hb dX3_upTo_23 (by decide) (fun c23 => ?_) (fun c23 => ?_)
        · refine lv_iload_n hx hb dX3_upTo_35 rfl (lv_at hl 2 rfl) ?_
          exact hret dX3_upTo_36 (by have h := i5_1; first | (rw [show tn - j = 0 by omega, tup] at h; rw [h]) | (rw [show tn - j = (tn - (j + 1)) + 1 by omega, tup, if_pos c23] at h; rw [h])) hP hD hS
        · refine lv_iinc (v := nI (j + 1)) (lv' := [(3, .int (nI (j + 1))), (0, .ref (a 9)), (1, .long (x)), (4, .int (nI j))]) hx hb dX3_upTo_26 hl (k := 2) rfl (x_inc _) (by decide) rfl (fun ls hl => ?_)
          refine lv_iinc (v := nI (j + 1)) (lv' := [(4, .int (nI (j + 1))), (3, .int (nI (j + 1))), (0, .ref (a 9)), (1, .long (x))]) hx hb dX3_upTo_29 hl (k := 3) rfl (x_inc _) (by decide) rfl (fun ls hl => ?_)
          refine lv_goto (tgt := 5) hx hb dX3_upTo_32 (by decide) ?_
          exact ih5 (j + 1) (by omega) (by omega) (by have h := i5_1; rw [show tn - j = (tn - (j + 1)) + 1 by omega, tup, if_neg c23] at h; exact h) _ _ hP hD hS ls (lv_sub hl [2, 3, 1, 0] rfl)
  exact L5 (tn - 0 + 1) 0 (by omega) (by omega) (by rfl) _ _ hP hD hS ls (lv_sub hl [2, 3, 1, 0] rfl)

set_option maxHeartbeats 4000000 in
set_option maxRecDepth 100000 in
theorem c_Ta_below {l : Launch} {dC : Nat → ClassId} {dI : Nat → Nat → Nat} {A : Nat → Prop} {a : Nat → Nat} {cB cI cL : ClassId} {h1 h2 s1 s2 : Nat} {op : Bool} {nx wt sf lf dn : Nat} {dg : Nat → Nat} {un : Nat} {ug : Nat → Nat} {qn : Nat} {qt qg : Nat → Nat} {tn : Nat} {tk tv : Nat → Int64} {ts : Nat → Nat} {ef eg ex : Nat} {eF : Nat → Nat} {pf pg px : Nat} {pF : Nat → Nat} (hn : tn ≤ 192) (x : Int64) : Met l yX3_below (Cond.code yX3_below cX3_below 5 (some .int) :: TB) { frames := 0, cells := 0, slots := 0, locals := 0 } (xPre Nst (dC, dI) A (tyS cB cI cL) (wS a cB cI cL h1 h2 s1 s2 op nx wt sf lf dn dg un ug qn qt qg tn tk tv ts ef eg ex eF pf pg px pF) [.ref (a 9), .long (x)]) (xQi (dC, dI) A (nI (tbe tk x tn 0)) (wS a cB cI cL h1 h2 s1 s2 op nx wt sf lf dn dg un ug qn qt qg tn tk tv ts ef eg ex eF pf pg px pF)) 0 0 A := by
  refine x_ofWi (cc := cX3_below) (maxL := 5) (by decide) rfl (Nat.le_of_ble_eq_true rfl) ?_
  intro p e s m args below meth c Q hx hb hml hts hown hK hN hP hD hS hret ls hl
  have hl : lv_has ls 5 [(0, .ref (a 9)), (1, .long (x))] := hl
  have hown : s.vm.findClass RX3 = some m.cls := hown
  have f22 := hts _ (List.mem_cons_of_mem _ tw_170)
  have in_X3 := (fun q hq => List.mem_cons_of_mem _ (inX3 q hq) : ∀ q ∈ wsX30, q ∈ (Cond.code yX3_below cX3_below 5 (some .int) :: TB))
  have f9 := hts _ (List.mem_cons_of_mem _ tw_167)
  refine lv_iconst (v := nI 0) hx hb dX3_below_0 (by decide) ?_
  refine lv_istore_n (lv' := [(3, .int (nI 0)), (0, .ref (a 9)), (1, .long (x))]) hx hb dX3_below_1 rfl hl (by decide) rfl (fun ls hl => ?_)
  refine lv_iconst (v := nI 0) hx hb dX3_below_2 (by decide) ?_
  refine lv_istore (lv' := [(4, .int (nI 0)), (3, .int (nI 0)), (0, .ref (a 9)), (1, .long (x))]) hx hb dX3_below_3 hl (by decide) rfl (fun ls hl => ?_)
  have L5 : ∀ (fu5 : Nat) (j : Nat), (tn - j < fu5) → (j ≤ tn) → (tbe tk x (tn - j) j = tbe tk x tn 0) → ∀ (H : Heap) (locs : List Loc), va_P (dC, dI) vwCl (wS a cB cI cL h1 h2 s1 s2 op nx wt sf lf dn dg un ug qn qt qg tn tk tv ts ef eg ex eF pf pg px pF) H → va_D A (wS a cB cI cL h1 h2 s1 s2 op nx wt sf lf dn dg un ug qn qt qg tn tk tv ts ef eg ex eF pf pg px pF) → va_S A s.heap H locs → ∀ (ls : Array Slot), lv_has ls 5 [(0, .ref (a 9)), (1, .long (x)), (3, .int (nI j)), (4, .int (nI j))] → W p l e { frames := 0, cells := 0, slots := 0, locals := 0 } s m args below meth c H locs 0 0 Q (F0 m 5 ls []) := by
    intro fu5
    induction fu5 with
    | zero => intro j hm; exact absurd hm (Nat.not_lt_zero _)
    | succ fu5 ih5 =>
      intro j hm i5_0 i5_1 H locs hP hD hS ls hl
      refine lv_iload hx hb dX3_below_5 (lv_at hl 3 rfl) ?_
      refine lv_aload_n hx hb dX3_below_7 rfl (lv_at hl 0 rfl) ?_
      refine va_get (D := (dC, dI)) (ci := 3) (v := .int (nI tn)) (C := RX3) (T := TX3) (N := 4) hx hb hts in_X3 hown hK hP 9 rfl rfl 3 (by decide) f22 (fun _ h9 => h9) rfl dX3_below_8 ?_
      refine x_icmp_ge (tgt := 35) hx hb dX3_below_11 (by decide) (by omega) (by omega) (fun c11 => ?_) (fun c11 => ?_)
      · refine lv_iload_n hx hb dX3_below_35 rfl (lv_at hl 2 rfl) ?_
        exact hret dX3_below_36 (by have h := i5_1; first | (rw [show tn - j = 0 by omega, tbe] at h; rw [h]) | (rw [show tn - j = (tn - (j + 1)) + 1 by omega, tbe, if_pos c23] at h; rw [h])) hP hD hS
      · refine lv_aload_n hx hb dX3_below_14 rfl (lv_at hl 0 rfl) ?_
        refine va_get (D := (dC, dI)) (ci := 3) (v := .ref (a 10)) (C := RX3) (T := TX3) (N := 4) hx hb hts in_X3 hown hK hP 9 rfl rfl 0 (by decide) f9 (fun _ h9 => h9) rfl dX3_below_15 ?_
        refine lv_iload hx hb dX3_below_18 (lv_at hl 3 rfl) ?_
        refine x_lald hx hb hK hP 10 2 rfl rfl (by omega) (by decide) dX3_below_20 ?_
        refine lv_lload_n hx hb dX3_below_21 rfl (lv_at hl 1 rfl) ?_
        refine W.lcmp hx hb dX3_below_22 ?_
        refine x_lif_ge (tgt := 35) hx hb dX3_below_23 (by decide) (fun c23 => ?_) (fun c23 => ?_)
        · refine lv_iload_n hx hb dX3_below_35 rfl (lv_at hl 2 rfl) ?_
          exact hret dX3_below_36 (by have h := i5_1; first | (rw [show tn - j = 0 by omega, tbe] at h; rw [h]) | (rw [show tn - j = (tn - (j + 1)) + 1 by omega, tbe, if_pos c23] at h; rw [h])) hP hD hS
        · refine lv_iinc (v := nI (j + 1)) (lv' := [(3, .int (nI (j + 1))), (0, .ref (a 9)), (1, .long (x)), (4, .int (nI j))]) hx hb dX3_below_26 hl (k := 2) rfl (x_inc _) (by decide) rfl (fun ls hl => ?_)
          refine lv_iinc (v := nI (j + 1)) (lv' := [(4, .int (nI (j + 1))), (3, .int (nI (j + 1))), (0, .ref (a 9)), (1, .long (x))]) hx hb dX3_below_29 hl (k := 3) rfl (x_inc _) (by decide) rfl (fun ls hl => ?_)
          refine lv_goto (tgt := 5) hx hb dX3_below_32 (by decide) ?_
          exact ih5 (j + 1) (by omega) (by omega) (by have h := i5_1; rw [show tn - j = (tn - (j + 1)) + 1 by omega, tbe, if_neg c23] at h; exact h) _ _ hP hD hS ls (lv_sub hl [2, 3, 1, 0] rfl)
  exact L5 (tn - 0 + 1) 0 (by omega) (by omega) (by rfl) _ _ hP hD hS ls (lv_sub hl [2, 3, 1, 0] rfl)

set_option maxHeartbeats 4000000 in
set_option maxRecDepth 100000 in
theorem c_Ta_withSequence {l : Launch} {dC : Nat → ClassId} {dI : Nat → Nat → Nat} {A : Nat → Prop} {a : Nat → Nat} {cB cI cL : ClassId} {h1 h2 s1 s2 : Nat} {op : Bool} {nx wt sf lf dn : Nat} {dg : Nat → Nat} {un : Nat} {ug : Nat → Nat} {qn : Nat} {qt qg : Nat → Nat} {tn : Nat} {tk tv : Nat → Int64} {ts : Nat → Nat} {ef eg ex : Nat} {eF : Nat → Nat} {pf pg px : Nat} {pF : Nat → Nat} (hn : tn ≤ 192) (hs : ∀ j, ts j < 2 ^ 31) (x : Nat) (hx1 : x < 2 ^ 31) : Met l yX3_withSequence (Cond.code yX3_withSequence cX3_withSequence 3 (some .int) :: TB) { frames := 0, cells := 0, slots := 0, locals := 0 } (xPre Nst (dC, dI) A (tyS cB cI cL) (wS a cB cI cL h1 h2 s1 s2 op nx wt sf lf dn dg un ug qn qt qg tn tk tv ts ef eg ex eF pf pg px pF) [.ref (a 9), .int (nI x)]) (xQi (dC, dI) A (oI (twi ts x tn 0)) (wS a cB cI cL h1 h2 s1 s2 op nx wt sf lf dn dg un ug qn qt qg tn tk tv ts ef eg ex eF pf pg px pF)) 0 0 A := by
  refine x_ofWi (cc := cX3_withSequence) (maxL := 3) (by decide) rfl (Nat.le_of_ble_eq_true rfl) ?_
  intro p e s m args below meth c Q hx hb hml hts hown hK hN hP hD hS hret ls hl
  have hl : lv_has ls 3 [(0, .ref (a 9)), (1, .int (nI x))] := hl
  have hown : s.vm.findClass RX3 = some m.cls := hown
  have f22 := hts _ (List.mem_cons_of_mem _ tw_170)
  have in_X3 := (fun q hq => List.mem_cons_of_mem _ (inX3 q hq) : ∀ q ∈ wsX30, q ∈ (Cond.code yX3_withSequence cX3_withSequence 3 (some .int) :: TB))
  have f18 := hts _ (List.mem_cons_of_mem _ tw_169)
  refine lv_iconst (v := nI 0) hx hb dX3_withSequence_0 (by decide) ?_
  refine lv_istore_n (lv' := [(2, .int (nI 0)), (0, .ref (a 9)), (1, .int (nI x))]) hx hb dX3_withSequence_1 rfl hl (by decide) rfl (fun ls hl => ?_)
  have L2 : ∀ (fu2 : Nat) (j : Nat), (tn - j < fu2) → (j ≤ tn) → (twi ts x (tn - j) j = twi ts x tn 0) → ∀ (H : Heap) (locs : List Loc), va_P (dC, dI) vwCl (wS a cB cI cL h1 h2 s1 s2 op nx wt sf lf dn dg un ug qn qt qg tn tk tv ts ef eg ex eF pf pg px pF) H → va_D A (wS a cB cI cL h1 h2 s1 s2 op nx wt sf lf dn dg un ug qn qt qg tn tk tv ts ef eg ex eF pf pg px pF) → va_S A s.heap H locs → ∀ (ls : Array Slot), lv_has ls 3 [(0, .ref (a 9)), (1, .int (nI x)), (2, .int (nI j))] → W p l e { frames := 0, cells := 0, slots := 0, locals := 0 } s m args below meth c H locs 0 0 Q (F0 m 2 ls []) := by
    intro fu2
    induction fu2 with
    | zero => intro j hm; exact absurd hm (Nat.not_lt_zero _)
    | succ fu2 ih2 =>
      intro j hm i2_0 i2_1 H locs hP hD hS ls hl
      have q1 := hs j
      refine lv_iload_n hx hb dX3_withSequence_2 rfl (lv_at hl 2 rfl) ?_
      refine lv_aload_n hx hb dX3_withSequence_3 rfl (lv_at hl 0 rfl) ?_
      refine va_get (D := (dC, dI)) (ci := 3) (v := .int (nI tn)) (C := RX3) (T := TX3) (N := 4) hx hb hts in_X3 hown hK hP 9 rfl rfl 3 (by decide) f22 (fun _ h9 => h9) rfl dX3_withSequence_4 ?_
      refine x_icmp_ge (tgt := 28) hx hb dX3_withSequence_7 (by decide) (by omega) (by omega) (fun c7 => ?_) (fun c7 => ?_)
      · refine lv_bipush (v := (-2)) hx hb dX3_withSequence_28 (by decide) ?_
        exact hret dX3_withSequence_30 (by have h := i2_1; rw [show tn - j = 0 by omega, twi] at h; rw [← h]; rfl) hP hD hS
      · refine lv_aload_n hx hb dX3_withSequence_10 rfl (lv_at hl 0 rfl) ?_
        refine va_get (D := (dC, dI)) (ci := 3) (v := .ref (a 12)) (C := RX3) (T := TX3) (N := 4) hx hb hts in_X3 hown hK hP 9 rfl rfl 2 (by decide) f18 (fun _ h9 => h9) rfl dX3_withSequence_11 ?_
        refine lv_iload_n hx hb dX3_withSequence_14 rfl (lv_at hl 2 rfl) ?_
        refine x_iald hx hb hK hP 12 1 rfl rfl (by omega) (by decide) dX3_withSequence_15 ?_
        refine lv_iload_n hx hb dX3_withSequence_16 rfl (lv_at hl 1 rfl) ?_
        refine x_icmp_ne (tgt := 22) hx hb dX3_withSequence_17 (by decide) (by omega) (by omega) (fun c17 => ?_) (fun c17 => ?_)
        · refine lv_iinc (v := nI (j + 1)) (lv' := [(2, .int (nI (j + 1))), (0, .ref (a 9)), (1, .int (nI x))]) hx hb dX3_withSequence_22 hl (k := 2) rfl (x_inc _) (by decide) rfl (fun ls hl => ?_)
          refine lv_goto (tgt := 2) hx hb dX3_withSequence_25 (by decide) ?_
          exact ih2 (j + 1) (by omega) (by omega) (by have h := i2_1; rw [show tn - j = (tn - (j + 1)) + 1 by omega, twi, if_neg c17] at h; exact h) _ _ hP hD hS ls (lv_sub hl [1, 2, 0] rfl)
        · refine lv_iload_n hx hb dX3_withSequence_20 rfl (lv_at hl 2 rfl) ?_
          exact hret dX3_withSequence_21 (by have h := i2_1; rw [show tn - j = (tn - (j + 1)) + 1 by omega, twi, if_pos c17] at h; rw [← h]; rfl) hP hD hS
  exact L2 (tn - 0 + 1) 0 (by omega) (by omega) (by rfl) _ _ hP hD hS ls (lv_sub hl [1, 2, 0] rfl)

set_option maxHeartbeats 4000000 in
set_option maxRecDepth 100000 in
theorem c_Ta_settle {l : Launch} {dC : Nat → ClassId} {dI : Nat → Nat → Nat} {A : Nat → Prop} {a : Nat → Nat} {cB cI cL : ClassId} {h1 h2 s1 s2 : Nat} {op : Bool} {nx wt sf lf dn : Nat} {dg : Nat → Nat} {un : Nat} {ug : Nat → Nat} {qn : Nat} {qt qg : Nat → Nat} {tn : Nat} {tk tv : Nat → Int64} {ts : Nat → Nat} {ef eg ex : Nat} {eF : Nat → Nat} {pf pg px : Nat} {pF : Nat → Nat} (hn : tn ≤ 192) : Met l yX3_settle (Cond.code yX3_settle cX3_settle 2 none :: TB) { frames := 0, cells := 0, slots := 0, locals := 0 } (xPre Nst (dC, dI) A (tyS cB cI cL) (wS a cB cI cL h1 h2 s1 s2 op nx wt sf lf dn dg un ug qn qt qg tn tk tv ts ef eg ex eF pf pg px pF) [.ref (a 9)]) (xQv (dC, dI) A (wS a cB cI cL h1 h2 s1 s2 op nx wt sf lf dn dg un ug qn qt qg tn tk tv (tset tn ts 0) ef eg ex eF pf pg px pF)) 0 0 A := by
  refine x_ofWv (cc := cX3_settle) (maxL := 2) (by decide) rfl (Nat.le_of_ble_eq_true rfl) ?_
  intro p e s m args below meth c Q hx hb hml hts hown hK hN hP hD hS hret ls hl
  have hl : lv_has ls 2 [(0, .ref (a 9))] := hl
  have hown : s.vm.findClass RX3 = some m.cls := hown
  have f22 := hts _ (List.mem_cons_of_mem _ tw_170)
  have in_X3 := (fun q hq => List.mem_cons_of_mem _ (inX3 q hq) : ∀ q ∈ wsX30, q ∈ (Cond.code yX3_settle cX3_settle 2 none :: TB))
  have f18 := hts _ (List.mem_cons_of_mem _ tw_169)
  refine lv_iconst (v := nI 0) hx hb dX3_settle_0 (by decide) ?_
  refine lv_istore_n (lv' := [(1, .int (nI 0)), (0, .ref (a 9))]) hx hb dX3_settle_1 rfl hl (by decide) rfl (fun ls hl => ?_)
  have L2 : ∀ (fu2 : Nat) (j : Nat) (t' : Nat → Nat), (tn - j < fu2) → (j ≤ tn) → (tset (tn - j) t' j = tset tn ts 0) → ∀ (H : Heap) (locs : List Loc), va_P (dC, dI) vwCl (wS a cB cI cL h1 h2 s1 s2 op nx wt sf lf dn dg un ug qn qt qg tn tk tv t' ef eg ex eF pf pg px pF) H → va_D A (wS a cB cI cL h1 h2 s1 s2 op nx wt sf lf dn dg un ug qn qt qg tn tk tv t' ef eg ex eF pf pg px pF) → va_S A s.heap H locs → ∀ (ls : Array Slot), lv_has ls 2 [(0, .ref (a 9)), (1, .int (nI j))] → W p l e { frames := 0, cells := 0, slots := 0, locals := 0 } s m args below meth c H locs 0 0 Q (F0 m 2 ls []) := by
    intro fu2
    induction fu2 with
    | zero => intro j t' hm; exact absurd hm (Nat.not_lt_zero _)
    | succ fu2 ih2 =>
      intro j t' hm i2_0 i2_1 H locs hP hD hS ls hl
      refine lv_iload_n hx hb dX3_settle_2 rfl (lv_at hl 1 rfl) ?_
      refine lv_aload_n hx hb dX3_settle_3 rfl (lv_at hl 0 rfl) ?_
      refine va_get (D := (dC, dI)) (ci := 3) (v := .int (nI tn)) (C := RX3) (T := TX3) (N := 4) hx hb hts in_X3 hown hK hP 9 rfl rfl 3 (by decide) f22 (fun _ h9 => h9) rfl dX3_settle_4 ?_
      refine x_icmp_ge (tgt := 23) hx hb dX3_settle_7 (by decide) (by omega) (by omega) (fun c7 => ?_) (fun c7 => ?_)
      · have e1 : t' = (tset tn ts 0) := by have h := i2_1; rw [show tn - j = 0 by omega] at h; exact h
        have h9 : wS a cB cI cL h1 h2 s1 s2 op nx wt sf lf dn dg un ug qn qt qg tn tk tv t' ef eg ex eF pf pg px pF = wS a cB cI cL h1 h2 s1 s2 op nx wt sf lf dn dg un ug qn qt qg tn tk tv (tset tn ts 0) ef eg ex eF pf pg px pF := by rw [← e1]
        have hP := x_wP h9 hP
        have hD := x_wD h9 hD
        exact hret dX3_settle_23 hP hD hS
      · refine lv_aload_n hx hb dX3_settle_10 rfl (lv_at hl 0 rfl) ?_
        refine va_get (D := (dC, dI)) (ci := 3) (v := .ref (a 12)) (C := RX3) (T := TX3) (N := 4) hx hb hts in_X3 hown hK hP 9 rfl rfl 2 (by decide) f18 (fun _ h9 => h9) rfl dX3_settle_11 ?_
        refine lv_iload_n hx hb dX3_settle_14 rfl (lv_at hl 1 rfl) ?_
        refine lv_iconst (v := nI 0) hx hb dX3_settle_15 (by decide) ?_
        refine x_iast hx hb hK hP hD hS 12 1 rfl rfl (by omega) (by decide) dX3_settle_16 (fun H locs hP hD hS => ?_)
        have hP : va_P (dC, dI) vwCl (wS a cB cI cL h1 h2 s1 s2 op nx wt sf lf dn dg un ug qn qt qg tn tk tv (va_up t' j 0) ef eg ex eF pf pg px pF) H := hP
        have hD : va_D A (wS a cB cI cL h1 h2 s1 s2 op nx wt sf lf dn dg un ug qn qt qg tn tk tv (va_up t' j 0) ef eg ex eF pf pg px pF) := hD
        refine lv_iinc (v := nI (j + 1)) (lv' := [(1, .int (nI (j + 1))), (0, .ref (a 9))]) hx hb dX3_settle_17 hl (k := 1) rfl (x_inc _) (by decide) rfl (fun ls hl => ?_)
        refine lv_goto (tgt := 2) hx hb dX3_settle_20 (by decide) ?_
        exact ih2 (j + 1) (va_up t' j 0) (by omega) (by omega) (by have h := i2_1; rw [show tn - j = (tn - (j + 1)) + 1 by omega, tset] at h; exact h) _ _ hP hD hS ls (lv_sub hl [1, 0] rfl)
  exact L2 (tn - 0 + 1) 0 ts (by omega) (by omega) (by rfl) _ _ hP hD hS ls (lv_sub hl [1, 0] rfl)

set_option maxHeartbeats 4000000 in
set_option maxRecDepth 100000 in
theorem c_Ta_insert {l : Launch} {dC : Nat → ClassId} {dI : Nat → Nat → Nat} {A : Nat → Prop} {a : Nat → Nat} {cB cI cL : ClassId} {h1 h2 s1 s2 : Nat} {op : Bool} {nx wt sf lf dn : Nat} {dg : Nat → Nat} {un : Nat} {ug : Nat → Nat} {qn : Nat} {qt qg : Nat → Nat} {tn : Nat} {tk tv : Nat → Int64} {ts : Nat → Nat} {ef eg ex : Nat} {eF : Nat → Nat} {pf pg px : Nat} {pF : Nat → Nat} (hn : tn ≤ 192) (hs : ∀ j, ts j < 2 ^ 31) (k v : Int64) (q : Nat) (hq1 : q < 2 ^ 31) : Met l yX3_insert (Cond.code yX3_insert cX3_insert 8 none :: TB) { frames := 1, cells := 0, slots := 0, locals := 24 } (xPre Nst (dC, dI) A (tyS cB cI cL) (wS a cB cI cL h1 h2 s1 s2 op nx wt sf lf dn dg un ug qn qt qg tn tk tv ts ef eg ex eF pf pg px pF) [.ref (a 9), .long (k), .long (v), .int (nI q)]) (xQv (dC, dI) A (wS a cB cI cL h1 h2 s1 s2 op nx wt sf lf dn dg un ug qn qt qg ((tI (tn, tk, tv, ts) k v q).1) ((tI (tn, tk, tv, ts) k v q).2.1) ((tI (tn, tk, tv, ts) k v q).2.2.1) ((tI (tn, tk, tv, ts) k v q).2.2.2) ef eg ex eF pf pg px pF)) 0 0 A := by
  refine x_ofWv (cc := cX3_insert) (maxL := 8) (by decide) rfl (Nat.le_of_ble_eq_true rfl) ?_
  intro p e s m args below meth c Q hx hb hml hts hown hK hN hP hD hS hret ls hl
  have hl : lv_has ls 8 [(0, .ref (a 9)), (1, .long (k)), (3, .long (v)), (5, .int (nI q))] := hl
  have hown : s.vm.findClass RX3 = some m.cls := hown
  have f22 := hts _ (List.mem_cons_of_mem _ tw_170)
  have in_X3 := (fun q hq => List.mem_cons_of_mem _ (inX3 q hq) : ∀ q ∈ wsX30, q ∈ (Cond.code yX3_insert cX3_insert 8 none :: TB))
  have f9 := hts _ (List.mem_cons_of_mem _ tw_167)
  have f15 := hts _ (List.mem_cons_of_mem _ tw_168)
  have f18 := hts _ (List.mem_cons_of_mem _ tw_169)
  refine lv_aload_n hx hb dX3_insert_0 rfl (lv_at hl 0 rfl) ?_
  refine va_get (D := (dC, dI)) (ci := 3) (v := .int (nI tn)) (C := RX3) (T := TX3) (N := 4) hx hb hts in_X3 hown hK hP 9 rfl rfl 3 (by decide) f22 (fun _ h9 => h9) rfl dX3_insert_1 ?_
  refine lv_sipush (v := nI 192) hx hb dX3_insert_4 (by decide) ?_
  refine x_icmp_lt (tgt := 11) hx hb dX3_insert_7 (by decide) (by omega) (by omega) (fun c7 => ?_) (fun c7 => ?_)
  · refine lv_aload_n hx hb dX3_insert_11 rfl (lv_at hl 0 rfl) ?_
    refine lv_lload_n hx hb dX3_insert_12 rfl (lv_at hl 1 rfl) ?_
    refine x_calli (va_runV (As := [.long (k)]) (rest := []) ⟨hx, hb, hml, hown, hts⟩ (c_Ta_upTo (by omega) k) (cwV 1 hts (tbV tw_292 tw_294 tw_13 tw_89 tw_295) rfl rfl rfl (by decide +kernel) ⟨Nat.le_of_ble_eq_true rfl, Nat.le_of_ble_eq_true rfl⟩) ⟨x_blind, va_recv hK hP (ci := 3) (q0 := 9) rfl rfl, x_pre hK hP hD hN⟩ rfl rfl hl.1 rfl (lv_room (Nat.le_of_ble_eq_true rfl)) dX3_insert_13 ⟨Nat.zero_le _, Nat.zero_le _⟩) hS (fun H locs hP hD hS => ?_)
    have hP : va_P (dC, dI) vwCl (wS a cB cI cL h1 h2 s1 s2 op nx wt sf lf dn dg un ug qn qt qg tn tk tv ts ef eg ex eF pf pg px pF) H := hP
    have hD : va_D A (wS a cB cI cL h1 h2 s1 s2 op nx wt sf lf dn dg un ug qn qt qg tn tk tv ts ef eg ex eF pf pg px pF) := hD
    have hv13 := tup_le tk k tn 0
    refine lv_istore (lv' := [(6, .int (nI (tup tk k tn 0))), (0, .ref (a 9)), (1, .long (k)), (3, .long (v)), (5, .int (nI q))]) hx hb dX3_insert_16 hl (by decide) rfl (fun ls hl => ?_)
    refine lv_aload_n hx hb dX3_insert_18 rfl (lv_at hl 1 rfl) ?_
    refine va_get (D := (dC, dI)) (ci := 3) (v := .int (nI tn)) (C := RX3) (T := TX3) (N := 4) hx hb hts in_X3 hown hK hP 9 rfl rfl 3 (by decide) f22 (fun _ h9 => h9) rfl dX3_insert_19 ?_
    refine lv_istore (lv' := [(7, .int (nI tn)), (6, .int (nI (tup tk k tn 0))), (0, .ref (a 9)), (1, .long (k)), (3, .long (v)), (5, .int (nI q))]) hx hb dX3_insert_22 hl (by decide) rfl (fun ls hl => ?_)
    have L24 : ∀ (fu24 : Nat) (i : Nat) (k' : Nat → Int64) (v' : Nat → Int64) (t' : Nat → Nat), (i < fu24) → (tup tk k tn 0 ≤ i) → (i ≤ tn) → (shf (i - tup tk k tn 0) k' i = shf (tn - tup tk k tn 0) tk tn) → (shf (i - tup tk k tn 0) v' i = shf (tn - tup tk k tn 0) tv tn) → (shf (i - tup tk k tn 0) t' i = shf (tn - tup tk k tn 0) ts tn) → ∀ (H : Heap) (locs : List Loc), va_P (dC, dI) vwCl (wS a cB cI cL h1 h2 s1 s2 op nx wt sf lf dn dg un ug qn qt qg tn k' v' t' ef eg ex eF pf pg px pF) H → va_D A (wS a cB cI cL h1 h2 s1 s2 op nx wt sf lf dn dg un ug qn qt qg tn k' v' t' ef eg ex eF pf pg px pF) → va_S A s.heap H locs → ∀ (ls : Array Slot), lv_has ls 8 [(0, .ref (a 9)), (1, .long (k)), (3, .long (v)), (5, .int (nI q)), (6, .int (nI (tup tk k tn 0))), (7, .int (nI i))] → W p l e { frames := 1, cells := 0, slots := 0, locals := 24 } s m args below meth c H locs 0 0 Q (F0 m 24 ls []) := by
      intro fu24
      induction fu24 with
      | zero => intro i k' v' t' hm; exact absurd hm (Nat.not_lt_zero _)
      | succ fu24 ih24 =>
        intro i k' v' t' hm i24_0 i24_1 i24_2 i24_3 i24_4 H locs hP hD hS ls hl
        refine lv_iload hx hb dX3_insert_24 (lv_at hl 5 rfl) ?_
        refine lv_iload hx hb dX3_insert_26 (lv_at hl 4 rfl) ?_
        refine x_icmp_le (tgt := 85) hx hb dX3_insert_28 (by decide) (by omega) (by omega) (fun c28 => ?_) (fun c28 => ?_)
        · have ei : i = tup tk k tn 0 := by omega
          have z2 := i24_2
          rw [show i - tup tk k tn 0 = 0 by omega] at z2
          simp only [shf] at z2
          have z3 := i24_3
          rw [show i - tup tk k tn 0 = 0 by omega] at z3
          simp only [shf] at z3
          have z4 := i24_4
          rw [show i - tup tk k tn 0 = 0 by omega] at z4
          simp only [shf] at z4
          have zz : tI (tn, tk, tv, ts) k v q = (tn + 1, tpl (tup tk k tn 0) tn tk k, tpl (tup tk k tn 0) tn tv v, tpl (tup tk k tn 0) tn ts q) := by rw [tI, if_pos (by show tn < 192; omega)]
          refine lv_aload_n hx hb dX3_insert_85 rfl (lv_at hl 0 rfl) ?_
          refine va_get (D := (dC, dI)) (ci := 3) (v := .ref (a 10)) (C := RX3) (T := TX3) (N := 4) hx hb hts in_X3 hown hK hP 9 rfl rfl 0 (by decide) f9 (fun _ h9 => h9) rfl dX3_insert_86 ?_
          refine lv_iload hx hb dX3_insert_89 (lv_at hl 4 rfl) ?_
          refine lv_lload_n hx hb dX3_insert_91 rfl (lv_at hl 1 rfl) ?_
          refine x_last hx hb hK hP hD hS 10 2 rfl rfl (by omega) (by decide) dX3_insert_92 (fun H locs hP hD hS => ?_)
          have hP : va_P (dC, dI) vwCl (wS a cB cI cL h1 h2 s1 s2 op nx wt sf lf dn dg un ug qn qt qg tn (va_up k' (tup tk k tn 0) k) v' t' ef eg ex eF pf pg px pF) H := hP
          have hD : va_D A (wS a cB cI cL h1 h2 s1 s2 op nx wt sf lf dn dg un ug qn qt qg tn (va_up k' (tup tk k tn 0) k) v' t' ef eg ex eF pf pg px pF) := hD
          refine lv_aload_n hx hb dX3_insert_93 rfl (lv_at hl 0 rfl) ?_
          refine va_get (D := (dC, dI)) (ci := 3) (v := .ref (a 11)) (C := RX3) (T := TX3) (N := 4) hx hb hts in_X3 hown hK hP 9 rfl rfl 1 (by decide) f15 (fun _ h9 => h9) rfl dX3_insert_94 ?_
          refine lv_iload hx hb dX3_insert_97 (lv_at hl 4 rfl) ?_
          refine lv_lload_n hx hb dX3_insert_99 rfl (lv_at hl 2 rfl) ?_
          refine x_last hx hb hK hP hD hS 11 2 rfl rfl (by omega) (by decide) dX3_insert_100 (fun H locs hP hD hS => ?_)
          have hP : va_P (dC, dI) vwCl (wS a cB cI cL h1 h2 s1 s2 op nx wt sf lf dn dg un ug qn qt qg tn (va_up k' (tup tk k tn 0) k) (va_up v' (tup tk k tn 0) v) t' ef eg ex eF pf pg px pF) H := hP
          have hD : va_D A (wS a cB cI cL h1 h2 s1 s2 op nx wt sf lf dn dg un ug qn qt qg tn (va_up k' (tup tk k tn 0) k) (va_up v' (tup tk k tn 0) v) t' ef eg ex eF pf pg px pF) := hD
          refine lv_aload_n hx hb dX3_insert_101 rfl (lv_at hl 0 rfl) ?_
          refine va_get (D := (dC, dI)) (ci := 3) (v := .ref (a 12)) (C := RX3) (T := TX3) (N := 4) hx hb hts in_X3 hown hK hP 9 rfl rfl 2 (by decide) f18 (fun _ h9 => h9) rfl dX3_insert_102 ?_
          refine lv_iload hx hb dX3_insert_105 (lv_at hl 4 rfl) ?_
          refine lv_iload hx hb dX3_insert_107 (lv_at hl 3 rfl) ?_
          refine x_iast hx hb hK hP hD hS 12 1 rfl rfl (by omega) (by decide) dX3_insert_109 (fun H locs hP hD hS => ?_)
          have hP : va_P (dC, dI) vwCl (wS a cB cI cL h1 h2 s1 s2 op nx wt sf lf dn dg un ug qn qt qg tn (va_up k' (tup tk k tn 0) k) (va_up v' (tup tk k tn 0) v) (va_up t' (tup tk k tn 0) q) ef eg ex eF pf pg px pF) H := hP
          have hD : va_D A (wS a cB cI cL h1 h2 s1 s2 op nx wt sf lf dn dg un ug qn qt qg tn (va_up k' (tup tk k tn 0) k) (va_up v' (tup tk k tn 0) v) (va_up t' (tup tk k tn 0) q) ef eg ex eF pf pg px pF) := hD
          refine lv_aload_n hx hb dX3_insert_110 rfl (lv_at hl 0 rfl) ?_
          refine lv_dup hx hb dX3_insert_111 rfl ?_
          refine va_get (D := (dC, dI)) (ci := 3) (v := .int (nI tn)) (C := RX3) (T := TX3) (N := 4) hx hb hts in_X3 hown hK hP 9 rfl rfl 3 (by decide) f22 (fun _ h9 => h9) rfl dX3_insert_112 ?_
          refine lv_iconst (v := nI 1) hx hb dX3_insert_115 (by decide) ?_
          refine x_iadd hx hb dX3_insert_116 ?_
          refine va_put (D := (dC, dI)) (ci := 3) (v := .int (nI (tn + 1))) (ty := .int) (C := RX3) (T := TX3) (N := 4) hx hb hts in_X3 tyX3 tyX3_ok nmX3 hown hK hP hD hS 9 rfl rfl 3 (by decide) f22 (fun _ h9 => h9) rfl (by decide +kernel) rfl rfl (Nat.le_of_ble_eq_true rfl) dX3_insert_117 (fun H locs hP hD hS => ?_)
          have hP : va_P (dC, dI) vwCl (wS a cB cI cL h1 h2 s1 s2 op nx wt sf lf dn dg un ug qn qt qg (tn + 1) (va_up k' (tup tk k tn 0) k) (va_up v' (tup tk k tn 0) v) (va_up t' (tup tk k tn 0) q) ef eg ex eF pf pg px pF) H := hP
          have hD : va_D A (wS a cB cI cL h1 h2 s1 s2 op nx wt sf lf dn dg un ug qn qt qg (tn + 1) (va_up k' (tup tk k tn 0) k) (va_up v' (tup tk k tn 0) v) (va_up t' (tup tk k tn 0) q) ef eg ex eF pf pg px pF) := hD
          have e1 : (tn + 1) = ((tI (tn, tk, tv, ts) k v q).1) := by rw [zz]
          have h9 : wS a cB cI cL h1 h2 s1 s2 op nx wt sf lf dn dg un ug qn qt qg (tn + 1) (va_up k' (tup tk k tn 0) k) (va_up v' (tup tk k tn 0) v) (va_up t' (tup tk k tn 0) q) ef eg ex eF pf pg px pF = wS a cB cI cL h1 h2 s1 s2 op nx wt sf lf dn dg un ug qn qt qg ((tI (tn, tk, tv, ts) k v q).1) (va_up k' (tup tk k tn 0) k) (va_up v' (tup tk k tn 0) v) (va_up t' (tup tk k tn 0) q) ef eg ex eF pf pg px pF := by rw [← e1]
          have hP := x_wP h9 hP
          have hD := x_wD h9 hD
          have e2 : (va_up k' (tup tk k tn 0) k) = ((tI (tn, tk, tv, ts) k v q).2.1) := by first | (rw [zz]; done) | (rw [zz]; rfl) | (rw [zz, z2]; rfl)
          have h9 : wS a cB cI cL h1 h2 s1 s2 op nx wt sf lf dn dg un ug qn qt qg ((tI (tn, tk, tv, ts) k v q).1) (va_up k' (tup tk k tn 0) k) (va_up v' (tup tk k tn 0) v) (va_up t' (tup tk k tn 0) q) ef eg ex eF pf pg px pF = wS a cB cI cL h1 h2 s1 s2 op nx wt sf lf dn dg un ug qn qt qg ((tI (tn, tk, tv, ts) k v q).1) ((tI (tn, tk, tv, ts) k v q).2.1) (va_up v' (tup tk k tn 0) v) (va_up t' (tup tk k tn 0) q) ef eg ex eF pf pg px pF := by rw [← e2]
          have hP := x_wP h9 hP
          have hD := x_wD h9 hD
          have e3 : (va_up v' (tup tk k tn 0) v) = ((tI (tn, tk, tv, ts) k v q).2.2.1) := by first | (rw [zz]; done) | (rw [zz]; rfl) | (rw [zz, z3]; rfl)
          have h9 : wS a cB cI cL h1 h2 s1 s2 op nx wt sf lf dn dg un ug qn qt qg ((tI (tn, tk, tv, ts) k v q).1) ((tI (tn, tk, tv, ts) k v q).2.1) (va_up v' (tup tk k tn 0) v) (va_up t' (tup tk k tn 0) q) ef eg ex eF pf pg px pF = wS a cB cI cL h1 h2 s1 s2 op nx wt sf lf dn dg un ug qn qt qg ((tI (tn, tk, tv, ts) k v q).1) ((tI (tn, tk, tv, ts) k v q).2.1) ((tI (tn, tk, tv, ts) k v q).2.2.1) (va_up t' (tup tk k tn 0) q) ef eg ex eF pf pg px pF := by rw [← e3]
          have hP := x_wP h9 hP
          have hD := x_wD h9 hD
          have e4 : (va_up t' (tup tk k tn 0) q) = ((tI (tn, tk, tv, ts) k v q).2.2.2) := by first | (rw [zz]; done) | (rw [zz]; rfl) | (rw [zz, z4]; rfl)
          have h9 : wS a cB cI cL h1 h2 s1 s2 op nx wt sf lf dn dg un ug qn qt qg ((tI (tn, tk, tv, ts) k v q).1) ((tI (tn, tk, tv, ts) k v q).2.1) ((tI (tn, tk, tv, ts) k v q).2.2.1) (va_up t' (tup tk k tn 0) q) ef eg ex eF pf pg px pF = wS a cB cI cL h1 h2 s1 s2 op nx wt sf lf dn dg un ug qn qt qg ((tI (tn, tk, tv, ts) k v q).1) ((tI (tn, tk, tv, ts) k v q).2.1) ((tI (tn, tk, tv, ts) k v q).2.2.1) ((tI (tn, tk, tv, ts) k v q).2.2.2) ef eg ex eF pf pg px pF := by rw [← e4]
          have hP := x_wP h9 hP
          have hD := x_wD h9 hD
          exact hret dX3_insert_120 hP hD hS
        · refine lv_aload_n hx hb dX3_insert_31 rfl (lv_at hl 0 rfl) ?_
          refine va_get (D := (dC, dI)) (ci := 3) (v := .ref (a 10)) (C := RX3) (T := TX3) (N := 4) hx hb hts in_X3 hown hK hP 9 rfl rfl 0 (by decide) f9 (fun _ h9 => h9) rfl dX3_insert_32 ?_
          refine lv_iload hx hb dX3_insert_35 (lv_at hl 5 rfl) ?_
          refine lv_aload_n hx hb dX3_insert_37 rfl (lv_at hl 0 rfl) ?_
          refine va_get (D := (dC, dI)) (ci := 3) (v := .ref (a 10)) (C := RX3) (T := TX3) (N := 4) hx hb hts in_X3 hown hK hP 9 rfl rfl 0 (by decide) f9 (fun _ h9 => h9) rfl dX3_insert_38 ?_
          refine lv_iload hx hb dX3_insert_41 (lv_at hl 5 rfl) ?_
          refine lv_iconst (v := nI 1) hx hb dX3_insert_43 (by decide) ?_
          refine x_isub hx hb dX3_insert_44 (by omega) ?_
          refine x_lald hx hb hK hP 10 2 rfl rfl (by omega) (by decide) dX3_insert_45 ?_
          refine x_last hx hb hK hP hD hS 10 2 rfl rfl (by omega) (by decide) dX3_insert_46 (fun H locs hP hD hS => ?_)
          have hP : va_P (dC, dI) vwCl (wS a cB cI cL h1 h2 s1 s2 op nx wt sf lf dn dg un ug qn qt qg tn (va_up k' i (k' (i - 1))) v' t' ef eg ex eF pf pg px pF) H := hP
          have hD : va_D A (wS a cB cI cL h1 h2 s1 s2 op nx wt sf lf dn dg un ug qn qt qg tn (va_up k' i (k' (i - 1))) v' t' ef eg ex eF pf pg px pF) := hD
          refine lv_aload_n hx hb dX3_insert_47 rfl (lv_at hl 0 rfl) ?_
          refine va_get (D := (dC, dI)) (ci := 3) (v := .ref (a 11)) (C := RX3) (T := TX3) (N := 4) hx hb hts in_X3 hown hK hP 9 rfl rfl 1 (by decide) f15 (fun _ h9 => h9) rfl dX3_insert_48 ?_
          refine lv_iload hx hb dX3_insert_51 (lv_at hl 5 rfl) ?_
          refine lv_aload_n hx hb dX3_insert_53 rfl (lv_at hl 0 rfl) ?_
          refine va_get (D := (dC, dI)) (ci := 3) (v := .ref (a 11)) (C := RX3) (T := TX3) (N := 4) hx hb hts in_X3 hown hK hP 9 rfl rfl 1 (by decide) f15 (fun _ h9 => h9) rfl dX3_insert_54 ?_
          refine lv_iload hx hb dX3_insert_57 (lv_at hl 5 rfl) ?_
          refine lv_iconst (v := nI 1) hx hb dX3_insert_59 (by decide) ?_
          refine x_isub hx hb dX3_insert_60 (by omega) ?_
          refine x_lald hx hb hK hP 11 2 rfl rfl (by omega) (by decide) dX3_insert_61 ?_
          refine x_last hx hb hK hP hD hS 11 2 rfl rfl (by omega) (by decide) dX3_insert_62 (fun H locs hP hD hS => ?_)
          have hP : va_P (dC, dI) vwCl (wS a cB cI cL h1 h2 s1 s2 op nx wt sf lf dn dg un ug qn qt qg tn (va_up k' i (k' (i - 1))) (va_up v' i (v' (i - 1))) t' ef eg ex eF pf pg px pF) H := hP
          have hD : va_D A (wS a cB cI cL h1 h2 s1 s2 op nx wt sf lf dn dg un ug qn qt qg tn (va_up k' i (k' (i - 1))) (va_up v' i (v' (i - 1))) t' ef eg ex eF pf pg px pF) := hD
          refine lv_aload_n hx hb dX3_insert_63 rfl (lv_at hl 0 rfl) ?_
          refine va_get (D := (dC, dI)) (ci := 3) (v := .ref (a 12)) (C := RX3) (T := TX3) (N := 4) hx hb hts in_X3 hown hK hP 9 rfl rfl 2 (by decide) f18 (fun _ h9 => h9) rfl dX3_insert_64 ?_
          refine lv_iload hx hb dX3_insert_67 (lv_at hl 5 rfl) ?_
          refine lv_aload_n hx hb dX3_insert_69 rfl (lv_at hl 0 rfl) ?_
          refine va_get (D := (dC, dI)) (ci := 3) (v := .ref (a 12)) (C := RX3) (T := TX3) (N := 4) hx hb hts in_X3 hown hK hP 9 rfl rfl 2 (by decide) f18 (fun _ h9 => h9) rfl dX3_insert_70 ?_
          refine lv_iload hx hb dX3_insert_73 (lv_at hl 5 rfl) ?_
          refine lv_iconst (v := nI 1) hx hb dX3_insert_75 (by decide) ?_
          refine x_isub hx hb dX3_insert_76 (by omega) ?_
          refine x_iald hx hb hK hP 12 1 rfl rfl (by omega) (by decide) dX3_insert_77 ?_
          refine x_iast hx hb hK hP hD hS 12 1 rfl rfl (by omega) (by decide) dX3_insert_78 (fun H locs hP hD hS => ?_)
          have hP : va_P (dC, dI) vwCl (wS a cB cI cL h1 h2 s1 s2 op nx wt sf lf dn dg un ug qn qt qg tn (va_up k' i (k' (i - 1))) (va_up v' i (v' (i - 1))) (va_up t' i (t' (i - 1))) ef eg ex eF pf pg px pF) H := hP
          have hD : va_D A (wS a cB cI cL h1 h2 s1 s2 op nx wt sf lf dn dg un ug qn qt qg tn (va_up k' i (k' (i - 1))) (va_up v' i (v' (i - 1))) (va_up t' i (t' (i - 1))) ef eg ex eF pf pg px pF) := hD
          refine lv_iinc (v := nI (i - 1)) (lv' := [(7, .int (nI (i - 1))), (0, .ref (a 9)), (1, .long (k)), (3, .long (v)), (5, .int (nI q)), (6, .int (nI (tup tk k tn 0)))]) hx hb dX3_insert_79 hl (k := 5) rfl (x_decr (by omega)) (by decide) rfl (fun ls hl => ?_)
          refine lv_goto (tgt := 24) hx hb dX3_insert_82 (by decide) ?_
          exact ih24 (i - 1) (va_up k' i (k' (i - 1))) (va_up v' i (v' (i - 1))) (va_up t' i (t' (i - 1))) (by omega) (by omega) (by omega) (by have h := i24_2; rw [show i - tup tk k tn 0 = (i - 1 - tup tk k tn 0) + 1 by omega, shf] at h; exact h) (by have h := i24_3; rw [show i - tup tk k tn 0 = (i - 1 - tup tk k tn 0) + 1 by omega, shf] at h; exact h) (by have h := i24_4; rw [show i - tup tk k tn 0 = (i - 1 - tup tk k tn 0) + 1 by omega, shf] at h; exact h) _ _ hP hD hS ls (lv_sub hl [1, 2, 3, 4, 5, 0] rfl)
    exact L24 (tn + 1) tn tk tv ts (by omega) (by omega) (by omega) (by rfl) (by rfl) (by rfl) _ _ hP hD hS ls (lv_sub hl [2, 3, 4, 5, 1, 0] rfl)
  · have zz : tI (tn, tk, tv, ts) k v q = (tn, tk, tv, ts) := by rw [tI, if_neg (by show ¬ tn < 192; omega)]
    have e5 : tn = ((tI (tn, tk, tv, ts) k v q).1) := by rw [zz]
    have h9 : wS a cB cI cL h1 h2 s1 s2 op nx wt sf lf dn dg un ug qn qt qg tn tk tv ts ef eg ex eF pf pg px pF = wS a cB cI cL h1 h2 s1 s2 op nx wt sf lf dn dg un ug qn qt qg ((tI (tn, tk, tv, ts) k v q).1) tk tv ts ef eg ex eF pf pg px pF := by rw [← e5]
    have hP := x_wP h9 hP
    have hD := x_wD h9 hD
    have e6 : tk = ((tI (tn, tk, tv, ts) k v q).2.1) := by first | (rw [zz]; done) | (rw [zz]; rfl) | (rw [zz, z2]; rfl)
    have h9 : wS a cB cI cL h1 h2 s1 s2 op nx wt sf lf dn dg un ug qn qt qg ((tI (tn, tk, tv, ts) k v q).1) tk tv ts ef eg ex eF pf pg px pF = wS a cB cI cL h1 h2 s1 s2 op nx wt sf lf dn dg un ug qn qt qg ((tI (tn, tk, tv, ts) k v q).1) ((tI (tn, tk, tv, ts) k v q).2.1) tv ts ef eg ex eF pf pg px pF := by rw [← e6]
    have hP := x_wP h9 hP
    have hD := x_wD h9 hD
    have e7 : tv = ((tI (tn, tk, tv, ts) k v q).2.2.1) := by first | (rw [zz]; done) | (rw [zz]; rfl) | (rw [zz, z3]; rfl)
    have h9 : wS a cB cI cL h1 h2 s1 s2 op nx wt sf lf dn dg un ug qn qt qg ((tI (tn, tk, tv, ts) k v q).1) ((tI (tn, tk, tv, ts) k v q).2.1) tv ts ef eg ex eF pf pg px pF = wS a cB cI cL h1 h2 s1 s2 op nx wt sf lf dn dg un ug qn qt qg ((tI (tn, tk, tv, ts) k v q).1) ((tI (tn, tk, tv, ts) k v q).2.1) ((tI (tn, tk, tv, ts) k v q).2.2.1) ts ef eg ex eF pf pg px pF := by rw [← e7]
    have hP := x_wP h9 hP
    have hD := x_wD h9 hD
    have e8 : ts = ((tI (tn, tk, tv, ts) k v q).2.2.2) := by first | (rw [zz]; done) | (rw [zz]; rfl) | (rw [zz, z4]; rfl)
    have h9 : wS a cB cI cL h1 h2 s1 s2 op nx wt sf lf dn dg un ug qn qt qg ((tI (tn, tk, tv, ts) k v q).1) ((tI (tn, tk, tv, ts) k v q).2.1) ((tI (tn, tk, tv, ts) k v q).2.2.1) ts ef eg ex eF pf pg px pF = wS a cB cI cL h1 h2 s1 s2 op nx wt sf lf dn dg un ug qn qt qg ((tI (tn, tk, tv, ts) k v q).1) ((tI (tn, tk, tv, ts) k v q).2.1) ((tI (tn, tk, tv, ts) k v q).2.2.1) ((tI (tn, tk, tv, ts) k v q).2.2.2) ef eg ex eF pf pg px pF := by rw [← e8]
    have hP := x_wP h9 hP
    have hD := x_wD h9 hD
    exact hret dX3_insert_10 hP hD hS
end
section
set_option maxHeartbeats 4000000 in
set_option maxRecDepth 100000 in
theorem c_Qu_clear {l : Launch} {dC : Nat → ClassId} {dI : Nat → Nat → Nat} {A : Nat → Prop} {a : Nat → Nat} {cB cI cL : ClassId} {h1 h2 s1 s2 : Nat} {op : Bool} {nx wt sf lf dn : Nat} {dg : Nat → Nat} {un : Nat} {ug : Nat → Nat} {qn : Nat} {qt qg : Nat → Nat} {tn : Nat} {tk tv : Nat → Int64} {ts : Nat → Nat} {ef eg ex : Nat} {eF : Nat → Nat} {pf pg px : Nat} {pF : Nat → Nat} : Met l yX2_clear (Cond.code yX2_clear cX2_clear 1 none :: TB) { frames := 0, cells := 0, slots := 0, locals := 0 } (xPre Nst (dC, dI) A (tyS cB cI cL) (wS a cB cI cL h1 h2 s1 s2 op nx wt sf lf dn dg un ug qn qt qg tn tk tv ts ef eg ex eF pf pg px pF) [.ref (a 5)]) (xQv (dC, dI) A (wS a cB cI cL h1 h2 s1 s2 op nx wt sf lf dn dg un ug 0 qt qg tn tk tv ts ef eg ex eF pf pg px pF)) 0 0 A := by
  refine x_ofWv (cc := cX2_clear) (maxL := 1) (by decide) rfl (Nat.le_of_ble_eq_true rfl) ?_
  intro p e s m args below meth c Q hx hb hml hts hown hK hN hP hD hS hret ls hl
  have hl : lv_has ls 1 [(0, .ref (a 5))] := hl
  have hown : s.vm.findClass RX2 = some m.cls := hown
  have f24 := hts _ (List.mem_cons_of_mem _ tw_152)
  have in_X2 := (fun q hq => List.mem_cons_of_mem _ (inX2 q hq) : ∀ q ∈ wsX20, q ∈ (Cond.code yX2_clear cX2_clear 1 none :: TB))
  refine lv_aload_n hx hb dX2_clear_0 rfl (lv_at hl 0 rfl) ?_
  refine lv_iconst (v := nI 0) hx hb dX2_clear_1 (by decide) ?_
  refine va_put (D := (dC, dI)) (ci := 2) (v := .int (nI 0)) (ty := .int) (C := RX2) (T := TX2) (N := 3) hx hb hts in_X2 tyX2 tyX2_ok nmX2 hown hK hP hD hS 5 rfl rfl 2 (by decide) f24 (fun _ h9 => h9) rfl (by decide +kernel) rfl rfl (Nat.le_of_ble_eq_true rfl) dX2_clear_2 (fun H locs hP hD hS => ?_)
  have hP : va_P (dC, dI) vwCl (wS a cB cI cL h1 h2 s1 s2 op nx wt sf lf dn dg un ug 0 qt qg tn tk tv ts ef eg ex eF pf pg px pF) H := hP
  have hD : va_D A (wS a cB cI cL h1 h2 s1 s2 op nx wt sf lf dn dg un ug 0 qt qg tn tk tv ts ef eg ex eF pf pg px pF) := hD
  exact hret dX2_clear_5 hP hD hS

set_option maxHeartbeats 4000000 in
set_option maxRecDepth 100000 in
theorem c_Qu_bytes {l : Launch} {dC : Nat → ClassId} {dI : Nat → Nat → Nat} {A : Nat → Prop} {a : Nat → Nat} {cB cI cL : ClassId} {h1 h2 s1 s2 : Nat} {op : Bool} {nx wt sf lf dn : Nat} {dg : Nat → Nat} {un : Nat} {ug : Nat → Nat} {qn : Nat} {qt qg : Nat → Nat} {tn : Nat} {tk tv : Nat → Int64} {ts : Nat → Nat} {ef eg ex : Nat} {eF : Nat → Nat} {pf pg px : Nat} {pF : Nat → Nat} : Met l yX2_bytes (Cond.code yX2_bytes cX2_bytes 1 (some .int) :: TB) { frames := 0, cells := 0, slots := 0, locals := 0 } (xPre Nst (dC, dI) A (tyS cB cI cL) (wS a cB cI cL h1 h2 s1 s2 op nx wt sf lf dn dg un ug qn qt qg tn tk tv ts ef eg ex eF pf pg px pF) [.ref (a 5)]) (xQi (dC, dI) A (nI (qn * 64)) (wS a cB cI cL h1 h2 s1 s2 op nx wt sf lf dn dg un ug qn qt qg tn tk tv ts ef eg ex eF pf pg px pF)) 0 0 A := by
  refine x_ofWi (cc := cX2_bytes) (maxL := 1) (by decide) rfl (Nat.le_of_ble_eq_true rfl) ?_
  intro p e s m args below meth c Q hx hb hml hts hown hK hN hP hD hS hret ls hl
  have hl : lv_has ls 1 [(0, .ref (a 5))] := hl
  have hown : s.vm.findClass RX2 = some m.cls := hown
  have f24 := hts _ (List.mem_cons_of_mem _ tw_152)
  have in_X2 := (fun q hq => List.mem_cons_of_mem _ (inX2 q hq) : ∀ q ∈ wsX20, q ∈ (Cond.code yX2_bytes cX2_bytes 1 (some .int) :: TB))
  refine lv_aload_n hx hb dX2_bytes_0 rfl (lv_at hl 0 rfl) ?_
  refine va_get (D := (dC, dI)) (ci := 2) (v := .int (nI qn)) (C := RX2) (T := TX2) (N := 3) hx hb hts in_X2 hown hK hP 5 rfl rfl 2 (by decide) f24 (fun _ h9 => h9) rfl dX2_bytes_1 ?_
  refine lv_bipush (v := nI 64) hx hb dX2_bytes_4 (by decide) ?_
  refine x_imul hx hb dX2_bytes_6 ?_
  exact hret dX2_bytes_7 (by rfl) hP hD hS

set_option maxHeartbeats 4000000 in
set_option maxRecDepth 100000 in
theorem c_Qu_target {l : Launch} {dC : Nat → ClassId} {dI : Nat → Nat → Nat} {A : Nat → Prop} {a : Nat → Nat} {cB cI cL : ClassId} {h1 h2 s1 s2 : Nat} {op : Bool} {nx wt sf lf dn : Nat} {dg : Nat → Nat} {un : Nat} {ug : Nat → Nat} {qn : Nat} {qt qg : Nat → Nat} {tn : Nat} {tk tv : Nat → Int64} {ts : Nat → Nat} {ef eg ex : Nat} {eF : Nat → Nat} {pf pg px : Nat} {pF : Nat → Nat} (hq : qn ≤ 64) (x : Int32) : Met l yX2_target (Cond.code yX2_target cX2_target 2 (some .int) :: TB) { frames := 0, cells := 0, slots := 0, locals := 0 } (xPre Nst (dC, dI) A (tyS cB cI cL) (wS a cB cI cL h1 h2 s1 s2 op nx wt sf lf dn dg un ug qn qt qg tn tk tv ts ef eg ex eF pf pg px pF) [.ref (a 5), .int (x)]) (xQi (dC, dI) A (qtr qn qt x) (wS a cB cI cL h1 h2 s1 s2 op nx wt sf lf dn dg un ug qn qt qg tn tk tv ts ef eg ex eF pf pg px pF)) 0 0 A := by
  refine x_ofWi (cc := cX2_target) (maxL := 2) (by decide) rfl (Nat.le_of_ble_eq_true rfl) ?_
  intro p e s m args below meth c Q hx hb hml hts hown hK hN hP hD hS hret ls hl
  have hl : lv_has ls 2 [(0, .ref (a 5)), (1, .int (x))] := hl
  have hown : s.vm.findClass RX2 = some m.cls := hown
  have f24 := hts _ (List.mem_cons_of_mem _ tw_152)
  have in_X2 := (fun q hq => List.mem_cons_of_mem _ (inX2 q hq) : ∀ q ∈ wsX20, q ∈ (Cond.code yX2_target cX2_target 2 (some .int) :: TB))
  have f20 := hts _ (List.mem_cons_of_mem _ tw_151)
  refine lv_iload_n hx hb dX2_target_0 rfl (lv_at hl 1 rfl) ?_
  refine lv_if_lt (tgt := 27) hx hb dX2_target_1 (by decide) (fun c1 => ?_) (fun c1 => ?_)
  · refine lv_bipush (v := (-2)) hx hb dX2_target_27 (by decide) ?_
    exact hret dX2_target_29 (by first | exact (qtr_t hj hq).symm | exact qtr_f (by first | exact Or.inl c1 | exact Or.inr (Or.inl c9) | exact Or.inr (Or.inr c15)) hq) hP hD hS
  · refine lv_iload_n hx hb dX2_target_4 rfl (lv_at hl 1 rfl) ?_
    refine lv_aload_n hx hb dX2_target_5 rfl (lv_at hl 0 rfl) ?_
    refine va_get (D := (dC, dI)) (ci := 2) (v := .int (nI qn)) (C := RX2) (T := TX2) (N := 3) hx hb hts in_X2 hown hK hP 5 rfl rfl 2 (by decide) f24 (fun _ h9 => h9) rfl dX2_target_6 ?_
    refine lv_icmp_ge (tgt := 27) hx hb dX2_target_9 (by decide) (fun c9 => ?_) (fun c9 => ?_)
    · refine lv_bipush (v := (-2)) hx hb dX2_target_27 (by decide) ?_
      exact hret dX2_target_29 (by first | exact (qtr_t hj hq).symm | exact qtr_f (by first | exact Or.inl c1 | exact Or.inr (Or.inl c9) | exact Or.inr (Or.inr c15)) hq) hP hD hS
    · refine lv_iload_n hx hb dX2_target_12 rfl (lv_at hl 1 rfl) ?_
      refine lv_bipush (v := nI 64) hx hb dX2_target_13 (by decide) ?_
      refine lv_icmp_ge (tgt := 27) hx hb dX2_target_15 (by decide) (fun c15 => ?_) (fun c15 => ?_)
      · refine lv_bipush (v := (-2)) hx hb dX2_target_27 (by decide) ?_
        exact hret dX2_target_29 (by first | exact (qtr_t hj hq).symm | exact qtr_f (by first | exact Or.inl c1 | exact Or.inr (Or.inl c9) | exact Or.inr (Or.inr c15)) hq) hP hD hS
      · obtain ⟨j, hj, rfl⟩ := qtr_in c1 c9 hq
        refine lv_aload_n hx hb dX2_target_18 rfl (lv_at hl 0 rfl) ?_
        refine va_get (D := (dC, dI)) (ci := 2) (v := .ref (a 8)) (C := RX2) (T := TX2) (N := 3) hx hb hts in_X2 hown hK hP 5 rfl rfl 1 (by decide) f20 (fun _ h9 => h9) rfl dX2_target_19 ?_
        refine lv_iload_n hx hb dX2_target_22 rfl (lv_at hl 1 rfl) ?_
        refine x_iald hx hb hK hP 8 1 rfl rfl (by omega) (by decide) dX2_target_23 ?_
        refine lv_goto (tgt := 29) hx hb dX2_target_24 (by decide) ?_
        exact hret dX2_target_29 (by first | exact (qtr_t hj hq).symm | exact qtr_f (by first | exact Or.inl c1 | exact Or.inr (Or.inl c9) | exact Or.inr (Or.inr c15)) hq) hP hD hS

set_option maxHeartbeats 4000000 in
set_option maxRecDepth 100000 in
theorem c_Qu_targetN {l : Launch} {dC : Nat → ClassId} {dI : Nat → Nat → Nat} {A : Nat → Prop} {a : Nat → Nat} {cB cI cL : ClassId} {h1 h2 s1 s2 : Nat} {op : Bool} {nx wt sf lf dn : Nat} {dg : Nat → Nat} {un : Nat} {ug : Nat → Nat} {qn : Nat} {qt qg : Nat → Nat} {tn : Nat} {tk tv : Nat → Int64} {ts : Nat → Nat} {ef eg ex : Nat} {eF : Nat → Nat} {pf pg px : Nat} {pF : Nat → Nat} (hq : qn ≤ 64) (i : Nat) (hi : i < qn) : Met l yX2_target (Cond.code yX2_target cX2_target 2 (some .int) :: TB) { frames := 0, cells := 0, slots := 0, locals := 0 } (xPre Nst (dC, dI) A (tyS cB cI cL) (wS a cB cI cL h1 h2 s1 s2 op nx wt sf lf dn dg un ug qn qt qg tn tk tv ts ef eg ex eF pf pg px pF) [.ref (a 5), .int (nI i)]) (xQi (dC, dI) A (nI (qt i)) (wS a cB cI cL h1 h2 s1 s2 op nx wt sf lf dn dg un ug qn qt qg tn tk tv ts ef eg ex eF pf pg px pF)) 0 0 A := by
  have h := c_Qu_target (l := l) (dC := dC) (dI := dI) (A := A) (a := a) (cB := cB) (cI := cI) (cL := cL) (h1 := h1) (h2 := h2) (s1 := s1) (s2 := s2) (op := op) (nx := nx) (wt := wt) (sf := sf) (lf := lf) (dn := dn) (dg := dg) (un := un) (ug := ug) (qn := qn) (qt := qt) (qg := qg) (tn := tn) (tk := tk) (tv := tv) (ts := ts) (ef := ef) (eg := eg) (ex := ex) (eF := eF) (pf := pf) (pg := pg) (px := px) (pF := pF) hq (nI i)
  rw [qtr_t hi hq] at h
  exact h

set_option maxHeartbeats 4000000 in
set_option maxRecDepth 100000 in
theorem c_Qu_holds {l : Launch} {dC : Nat → ClassId} {dI : Nat → Nat → Nat} {A : Nat → Prop} {a : Nat → Nat} {cB cI cL : ClassId} {h1 h2 s1 s2 : Nat} {op : Bool} {nx wt sf lf dn : Nat} {dg : Nat → Nat} {un : Nat} {ug : Nat → Nat} {qn : Nat} {qt qg : Nat → Nat} {tn : Nat} {tk tv : Nat → Int64} {ts : Nat → Nat} {ef eg ex : Nat} {eF : Nat → Nat} {pf pg px : Nat} {pF : Nat → Nat} (hq : qn ≤ 64) (hqt : ∀ j, qt j < 64) (x : Nat) (hx1 : x < 2 ^ 31) : Met l yX2_holds (Cond.code yX2_holds cX2_holds 3 (some .boolean) :: TB) { frames := 1, cells := 0, slots := 0, locals := 21 } (xPre Nst (dC, dI) A (tyS cB cI cL) (wS a cB cI cL h1 h2 s1 s2 op nx wt sf lf dn dg un ug qn qt qg tn tk tv ts ef eg ex eF pf pg px pF) [.ref (a 5), .int (nI x)]) (xQi (dC, dI) A (bI (qhol qt x qn 0)) (wS a cB cI cL h1 h2 s1 s2 op nx wt sf lf dn dg un ug qn qt qg tn tk tv ts ef eg ex eF pf pg px pF)) 0 0 A := by
  refine x_ofWz (cc := cX2_holds) (maxL := 3) (by decide) rfl (Nat.le_of_ble_eq_true rfl) (x_narZ _) ?_
  intro p e s m args below meth c Q hx hb hml hts hown hK hN hP hD hS hret ls hl
  have hl : lv_has ls 3 [(0, .ref (a 5)), (1, .int (nI x))] := hl
  have hown : s.vm.findClass RX2 = some m.cls := hown
  have f24 := hts _ (List.mem_cons_of_mem _ tw_152)
  have in_X2 := (fun q hq => List.mem_cons_of_mem _ (inX2 q hq) : ∀ q ∈ wsX20, q ∈ (Cond.code yX2_holds cX2_holds 3 (some .boolean) :: TB))
  refine lv_iconst (v := nI 0) hx hb dX2_holds_0 (by decide) ?_
  refine lv_istore_n (lv' := [(2, .int (nI 0)), (0, .ref (a 5)), (1, .int (nI x))]) hx hb dX2_holds_1 rfl hl (by decide) rfl (fun ls hl => ?_)
  have L2 : ∀ (fu2 : Nat) (j : Nat), (qn - j < fu2) → (j ≤ qn) → (qhol qt x (qn - j) j = qhol qt x qn 0) → ∀ (H : Heap) (locs : List Loc), va_P (dC, dI) vwCl (wS a cB cI cL h1 h2 s1 s2 op nx wt sf lf dn dg un ug qn qt qg tn tk tv ts ef eg ex eF pf pg px pF) H → va_D A (wS a cB cI cL h1 h2 s1 s2 op nx wt sf lf dn dg un ug qn qt qg tn tk tv ts ef eg ex eF pf pg px pF) → va_S A s.heap H locs → ∀ (ls : Array Slot), lv_has ls 3 [(0, .ref (a 5)), (1, .int (nI x)), (2, .int (nI j))] → W p l e { frames := 1, cells := 0, slots := 0, locals := 21 } s m args below meth c H locs 0 0 Q (F0 m 2 ls []) := by
    intro fu2
    induction fu2 with
    | zero => intro j hm; exact absurd hm (Nat.not_lt_zero _)
    | succ fu2 ih2 =>
      intro j hm i2_0 i2_1 H locs hP hD hS ls hl
      have q1 := hqt j
      refine lv_iload_n hx hb dX2_holds_2 rfl (lv_at hl 2 rfl) ?_
      refine lv_aload_n hx hb dX2_holds_3 rfl (lv_at hl 0 rfl) ?_
      refine va_get (D := (dC, dI)) (ci := 2) (v := .int (nI qn)) (C := RX2) (T := TX2) (N := 3) hx hb hts in_X2 hown hK hP 5 rfl rfl 2 (by decide) f24 (fun _ h9 => h9) rfl dX2_holds_4 ?_
      refine x_icmp_ge (tgt := 27) hx hb dX2_holds_7 (by decide) (by omega) (by omega) (fun c7 => ?_) (fun c7 => ?_)
      · refine lv_iconst (v := nI 0) hx hb dX2_holds_27 (by decide) ?_
        exact hret dX2_holds_28 (by have h := i2_1; rw [show qn - j = 0 by omega, qhol] at h; rw [← h]; rfl) hP hD hS
      · refine lv_aload_n hx hb dX2_holds_10 rfl (lv_at hl 0 rfl) ?_
        refine lv_iload_n hx hb dX2_holds_11 rfl (lv_at hl 2 rfl) ?_
        refine x_calli (va_runV (As := [.int (nI j)]) (rest := []) ⟨hx, hb, hml, hown, hts⟩ (c_Qu_targetN (by omega) j (by omega)) (cwV 1 hts (tbV tw_335 tw_337 tw_23 tw_88 tw_338) rfl rfl rfl (by decide +kernel) ⟨Nat.le_of_ble_eq_true rfl, Nat.le_of_ble_eq_true rfl⟩) ⟨x_blind, va_recv hK hP (ci := 2) (q0 := 5) rfl rfl, x_pre hK hP hD hN⟩ rfl rfl hl.1 rfl (lv_room (Nat.le_of_ble_eq_true rfl)) dX2_holds_12 ⟨Nat.zero_le _, Nat.zero_le _⟩) hS (fun H locs hP hD hS => ?_)
        have hP : va_P (dC, dI) vwCl (wS a cB cI cL h1 h2 s1 s2 op nx wt sf lf dn dg un ug qn qt qg tn tk tv ts ef eg ex eF pf pg px pF) H := hP
        have hD : va_D A (wS a cB cI cL h1 h2 s1 s2 op nx wt sf lf dn dg un ug qn qt qg tn tk tv ts ef eg ex eF pf pg px pF) := hD
        refine lv_iload_n hx hb dX2_holds_15 rfl (lv_at hl 1 rfl) ?_
        refine x_icmp_ne (tgt := 21) hx hb dX2_holds_16 (by decide) (by omega) (by omega) (fun c16 => ?_) (fun c16 => ?_)
        · refine lv_iinc (v := nI (j + 1)) (lv' := [(2, .int (nI (j + 1))), (0, .ref (a 5)), (1, .int (nI x))]) hx hb dX2_holds_21 hl (k := 2) rfl (x_inc _) (by decide) rfl (fun ls hl => ?_)
          refine lv_goto (tgt := 2) hx hb dX2_holds_24 (by decide) ?_
          exact ih2 (j + 1) (by omega) (by omega) (by have h := i2_1; rw [show qn - j = (qn - (j + 1)) + 1 by omega, qhol, if_neg c16] at h; exact h) _ _ hP hD hS ls (lv_sub hl [1, 2, 0] rfl)
        · refine lv_iconst (v := nI 1) hx hb dX2_holds_19 (by decide) ?_
          exact hret dX2_holds_20 (by have h := i2_1; rw [show qn - j = (qn - (j + 1)) + 1 by omega, qhol, if_pos c16] at h; rw [← h]; rfl) hP hD hS
  exact L2 (qn - 0 + 1) 0 (by omega) (by omega) (by rfl) _ _ hP hD hS ls (lv_sub hl [1, 2, 0] rfl)

set_option maxHeartbeats 4000000 in
set_option maxRecDepth 100000 in
theorem c_Qu_append {l : Launch} {dC : Nat → ClassId} {dI : Nat → Nat → Nat} {A : Nat → Prop} {a : Nat → Nat} {cB cI cL : ClassId} {h1 h2 s1 s2 : Nat} {op : Bool} {nx wt sf lf dn : Nat} {dg : Nat → Nat} {un : Nat} {ug : Nat → Nat} {qn : Nat} {qt qg : Nat → Nat} {tn : Nat} {tk tv : Nat → Int64} {ts : Nat → Nat} {ef eg ex : Nat} {eF : Nat → Nat} {pf pg px : Nat} {pF : Nat → Nat} (hq : qn < 64) (hqg : ∀ j, qg j < 256) (x so pa : Nat) (hso : so < 2 ^ 31) (hpa : pa < 2 ^ 31) : Met l yX2_append (Cond.code yX2_append cX2_append 5 (some .int) :: TB) { frames := 3, cells := 0, slots := 0, locals := 67 } (xPre Nst (dC, dI) A (tyS cB cI cL) (wS a cB cI cL h1 h2 s1 s2 op nx wt sf lf dn dg un ug qn qt qg tn tk tv ts ef eg ex eF pf pg px pF) [.ref (a 5), .int (nI x), .int (nI so), .int (nI pa)]) (xQi (dC, dI) A (nI qn) (wS a cB cI cL h1 h2 s1 s2 op nx wt sf lf dn dg un ug (qn + 1) (va_up qt qn x) (qap qn qg so pa) tn tk tv ts ef eg ex eF pf pg px pF)) 0 0 A := by
  refine x_ofWi (cc := cX2_append) (maxL := 5) (by decide) rfl (Nat.le_of_ble_eq_true rfl) ?_
  intro p e s m args below meth c Q hx hb hml hts hown hK hN hP hD hS hret ls hl
  have hl : lv_has ls 5 [(0, .ref (a 5)), (1, .int (nI x)), (2, .int (nI so)), (3, .int (nI pa))] := hl
  have hown : s.vm.findClass RX2 = some m.cls := hown
  have f24 := hts _ (List.mem_cons_of_mem _ tw_152)
  have in_X2 := (fun q hq => List.mem_cons_of_mem _ (inX2 q hq) : ∀ q ∈ wsX20, q ∈ (Cond.code yX2_append cX2_append 5 (some .int) :: TB))
  have f20 := hts _ (List.mem_cons_of_mem _ tw_151)
  have f14 := hts _ (List.mem_cons_of_mem _ tw_149)
  have n32 := hN (.methodLinkNest RX2 32 yX0_wipe "SegmentLog") (by decide +kernel)
  have ini_X0 := hts _ (List.mem_cons_of_mem _ tw_85)
  have im_yX0_wipe := hts _ (List.mem_cons_of_mem _ tw_252)
  have se_yX0_wipe := hts _ (List.mem_cons_of_mem _ tw_4)
  have n35 := hN (.methodLinkNest RX2 35 yX0_put "SegmentLog") (by decide +kernel)
  have im_yX0_put := hts _ (List.mem_cons_of_mem _ tw_256)
  have se_yX0_put := hts _ (List.mem_cons_of_mem _ tw_5)
  refine lv_aload_n hx hb dX2_append_0 rfl (lv_at hl 0 rfl) ?_
  refine va_get (D := (dC, dI)) (ci := 2) (v := .int (nI qn)) (C := RX2) (T := TX2) (N := 3) hx hb hts in_X2 hown hK hP 5 rfl rfl 2 (by decide) f24 (fun _ h9 => h9) rfl dX2_append_1 ?_
  refine lv_bipush (v := nI 64) hx hb dX2_append_4 (by decide) ?_
  refine x_icmp_lt (tgt := 12) hx hb dX2_append_6 (by decide) (by omega) (by omega) (fun c6 => ?_) (fun c6 => ?_)
  · refine lv_aload_n hx hb dX2_append_12 rfl (lv_at hl 0 rfl) ?_
    refine va_get (D := (dC, dI)) (ci := 2) (v := .int (nI qn)) (C := RX2) (T := TX2) (N := 3) hx hb hts in_X2 hown hK hP 5 rfl rfl 2 (by decide) f24 (fun _ h9 => h9) rfl dX2_append_13 ?_
    refine lv_istore (lv' := [(4, .int (nI qn)), (0, .ref (a 5)), (1, .int (nI x)), (2, .int (nI so)), (3, .int (nI pa))]) hx hb dX2_append_16 hl (by decide) rfl (fun ls hl => ?_)
    refine lv_aload_n hx hb dX2_append_18 rfl (lv_at hl 1 rfl) ?_
    refine lv_dup hx hb dX2_append_19 rfl ?_
    refine va_get (D := (dC, dI)) (ci := 2) (v := .int (nI qn)) (C := RX2) (T := TX2) (N := 3) hx hb hts in_X2 hown hK hP 5 rfl rfl 2 (by decide) f24 (fun _ h9 => h9) rfl dX2_append_20 ?_
    refine lv_iconst (v := nI 1) hx hb dX2_append_23 (by decide) ?_
    refine x_iadd hx hb dX2_append_24 ?_
    refine va_put (D := (dC, dI)) (ci := 2) (v := .int (nI (qn + 1))) (ty := .int) (C := RX2) (T := TX2) (N := 3) hx hb hts in_X2 tyX2 tyX2_ok nmX2 hown hK hP hD hS 5 rfl rfl 2 (by decide) f24 (fun _ h9 => h9) rfl (by decide +kernel) rfl rfl (Nat.le_of_ble_eq_true rfl) dX2_append_25 (fun H locs hP hD hS => ?_)
    have hP : va_P (dC, dI) vwCl (wS a cB cI cL h1 h2 s1 s2 op nx wt sf lf dn dg un ug (qn + 1) qt qg tn tk tv ts ef eg ex eF pf pg px pF) H := hP
    have hD : va_D A (wS a cB cI cL h1 h2 s1 s2 op nx wt sf lf dn dg un ug (qn + 1) qt qg tn tk tv ts ef eg ex eF pf pg px pF) := hD
    refine lv_aload_n hx hb dX2_append_28 rfl (lv_at hl 1 rfl) ?_
    refine va_get (D := (dC, dI)) (ci := 2) (v := .ref (a 8)) (C := RX2) (T := TX2) (N := 3) hx hb hts in_X2 hown hK hP 5 rfl rfl 1 (by decide) f20 (fun _ h9 => h9) rfl dX2_append_29 ?_
    refine lv_iload hx hb dX2_append_32 (lv_at hl 0 rfl) ?_
    refine lv_iload_n hx hb dX2_append_34 rfl (lv_at hl 2 rfl) ?_
    refine x_iast hx hb hK hP hD hS 8 1 rfl rfl (by omega) (by decide) dX2_append_35 (fun H locs hP hD hS => ?_)
    have hP : va_P (dC, dI) vwCl (wS a cB cI cL h1 h2 s1 s2 op nx wt sf lf dn dg un ug (qn + 1) (va_up qt qn x) qg tn tk tv ts ef eg ex eF pf pg px pF) H := hP
    have hD : va_D A (wS a cB cI cL h1 h2 s1 s2 op nx wt sf lf dn dg un ug (qn + 1) (va_up qt qn x) qg tn tk tv ts ef eg ex eF pf pg px pF) := hD
    refine lv_aload_n hx hb dX2_append_36 rfl (lv_at hl 1 rfl) ?_
    refine va_get (D := (dC, dI)) (ci := 2) (v := .ref (a 6)) (C := RX2) (T := TX2) (N := 3) hx hb hts in_X2 hown hK hP 5 rfl rfl 0 (by decide) f14 (fun _ h9 => h9) rfl dX2_append_37 ?_
    refine lv_iload hx hb dX2_append_40 (lv_at hl 0 rfl) ?_
    refine x_callv (va_runVN (As := [.int (nI qn)]) (rest := []) ⟨hx, hb, hml, hown, hts⟩ (c_Bl_wipe (show okB (fun qg' => wS a cB cI cL h1 h2 s1 s2 op nx wt sf lf dn dg un ug (qn + 1) (va_up qt qn x) qg' tn tk tv ts ef eg ex eF pf pg px pF) 6 7 (a 6) (a 7) cB 64 from ⟨fun _ => rfl, fun _ => rfl, fun _ _ => rfl⟩) (tyS_B cB cI cL) (by omega) qg hqg qn (by omega)) ⟨(va_cnB 1 hts (tbG tw_253) rfl rfl rfl n32 ini_X0 (by decide +kernel) ⟨Nat.le_of_ble_eq_true rfl, Nat.le_of_ble_eq_true rfl⟩), im_yX0_wipe, se_yX0_wipe⟩ ⟨x_blind, va_recv hK hP (ci := 0) (q0 := 6) rfl rfl, x_pre hK hP hD hN⟩ rfl rfl hl.1 rfl (lv_room (Nat.le_of_ble_eq_true rfl)) dX2_append_42 ⟨Nat.zero_le _, Nat.zero_le _⟩) hS (fun H locs hP hD hS => ?_)
    have hP : va_P (dC, dI) vwCl (wS a cB cI cL h1 h2 s1 s2 op nx wt sf lf dn dg un ug (qn + 1) (va_up qt qn x) (wipG 64 qn qg) tn tk tv ts ef eg ex eF pf pg px pF) H := hP
    have hD : va_D A (wS a cB cI cL h1 h2 s1 s2 op nx wt sf lf dn dg un ug (qn + 1) (va_up qt qn x) (wipG 64 qn qg) tn tk tv ts ef eg ex eF pf pg px pF) := hD
    refine lv_aload_n hx hb dX2_append_45 rfl (lv_at hl 1 rfl) ?_
    refine va_get (D := (dC, dI)) (ci := 2) (v := .ref (a 6)) (C := RX2) (T := TX2) (N := 3) hx hb hts in_X2 hown hK hP 5 rfl rfl 0 (by decide) f14 (fun _ h9 => h9) rfl dX2_append_46 ?_
    refine lv_iload hx hb dX2_append_49 (lv_at hl 0 rfl) ?_
    refine lv_iconst (v := nI 0) hx hb dX2_append_51 (by decide) ?_
    refine lv_iload_n hx hb dX2_append_52 rfl (lv_at hl 3 rfl) ?_
    refine x_callv (va_runVN (As := [.int (nI qn), .int (nI 0), .int (nI so)]) (rest := []) ⟨hx, hb, hml, hown, hts⟩ (c_Bl_put (show okB (fun qg' => wS a cB cI cL h1 h2 s1 s2 op nx wt sf lf dn dg un ug (qn + 1) (va_up qt qn x) qg' tn tk tv ts ef eg ex eF pf pg px pF) 6 7 (a 6) (a 7) cB 64 from ⟨fun _ => rfl, fun _ => rfl, fun _ _ => rfl⟩) (tyS_B cB cI cL) (by omega) (wipG 64 qn qg) qn 0 so (by omega) (by omega) (by omega)) ⟨(va_cnB 3 hts (tbG tw_257) rfl rfl rfl n35 ini_X0 (by decide +kernel) ⟨Nat.le_of_ble_eq_true rfl, Nat.le_of_ble_eq_true rfl⟩), im_yX0_put, se_yX0_put⟩ ⟨x_blind, va_recv hK hP (ci := 0) (q0 := 6) rfl rfl, x_pre hK hP hD hN⟩ rfl rfl hl.1 rfl (lv_room (Nat.le_of_ble_eq_true rfl)) dX2_append_53 ⟨Nat.zero_le _, Nat.zero_le _⟩) hS (fun H locs hP hD hS => ?_)
    have hP : va_P (dC, dI) vwCl (wS a cB cI cL h1 h2 s1 s2 op nx wt sf lf dn dg un ug (qn + 1) (va_up qt qn x) (bput 64 (wipG 64 qn qg) qn 0 so) tn tk tv ts ef eg ex eF pf pg px pF) H := hP
    have hD : va_D A (wS a cB cI cL h1 h2 s1 s2 op nx wt sf lf dn dg un ug (qn + 1) (va_up qt qn x) (bput 64 (wipG 64 qn qg) qn 0 so) tn tk tv ts ef eg ex eF pf pg px pF) := hD
    refine lv_aload_n hx hb dX2_append_56 rfl (lv_at hl 1 rfl) ?_
    refine va_get (D := (dC, dI)) (ci := 2) (v := .ref (a 6)) (C := RX2) (T := TX2) (N := 3) hx hb hts in_X2 hown hK hP 5 rfl rfl 0 (by decide) f14 (fun _ h9 => h9) rfl dX2_append_57 ?_
    refine lv_iload hx hb dX2_append_60 (lv_at hl 0 rfl) ?_
    refine lv_iconst (v := nI 1) hx hb dX2_append_62 (by decide) ?_
    refine lv_iload_n hx hb dX2_append_63 rfl (lv_at hl 4 rfl) ?_
    refine x_callv (va_runVN (As := [.int (nI qn), .int (nI 1), .int (nI pa)]) (rest := []) ⟨hx, hb, hml, hown, hts⟩ (c_Bl_put (show okB (fun qg' => wS a cB cI cL h1 h2 s1 s2 op nx wt sf lf dn dg un ug (qn + 1) (va_up qt qn x) qg' tn tk tv ts ef eg ex eF pf pg px pF) 6 7 (a 6) (a 7) cB 64 from ⟨fun _ => rfl, fun _ => rfl, fun _ _ => rfl⟩) (tyS_B cB cI cL) (by omega) (bput 64 (wipG 64 qn qg) qn 0 so) qn 1 pa (by omega) (by omega) (by omega)) ⟨(va_cnB 3 hts (tbG tw_257) rfl rfl rfl n35 ini_X0 (by decide +kernel) ⟨Nat.le_of_ble_eq_true rfl, Nat.le_of_ble_eq_true rfl⟩), im_yX0_put, se_yX0_put⟩ ⟨x_blind, va_recv hK hP (ci := 0) (q0 := 6) rfl rfl, x_pre hK hP hD hN⟩ rfl rfl hl.1 rfl (lv_room (Nat.le_of_ble_eq_true rfl)) dX2_append_64 ⟨Nat.zero_le _, Nat.zero_le _⟩) hS (fun H locs hP hD hS => ?_)
    have hP : va_P (dC, dI) vwCl (wS a cB cI cL h1 h2 s1 s2 op nx wt sf lf dn dg un ug (qn + 1) (va_up qt qn x) (bput 64 (bput 64 (wipG 64 qn qg) qn 0 so) qn 1 pa) tn tk tv ts ef eg ex eF pf pg px pF) H := hP
    have hD : va_D A (wS a cB cI cL h1 h2 s1 s2 op nx wt sf lf dn dg un ug (qn + 1) (va_up qt qn x) (bput 64 (bput 64 (wipG 64 qn qg) qn 0 so) qn 1 pa) tn tk tv ts ef eg ex eF pf pg px pF) := hD
    refine lv_iload hx hb dX2_append_67 (lv_at hl 0 rfl) ?_
    have e1 : (bput 64 (bput 64 (wipG 64 qn qg) qn 0 so) qn 1 pa) = (qap qn qg so pa) := by rfl
    have h9 : wS a cB cI cL h1 h2 s1 s2 op nx wt sf lf dn dg un ug (qn + 1) (va_up qt qn x) (bput 64 (bput 64 (wipG 64 qn qg) qn 0 so) qn 1 pa) tn tk tv ts ef eg ex eF pf pg px pF = wS a cB cI cL h1 h2 s1 s2 op nx wt sf lf dn dg un ug (qn + 1) (va_up qt qn x) (qap qn qg so pa) tn tk tv ts ef eg ex eF pf pg px pF := by rw [e1]
    have hP := x_wP h9 hP
    have hD := x_wD h9 hD
    exact hret dX2_append_69 (by rfl) hP hD hS
  · exact absurd c6 (by omega)

set_option maxHeartbeats 4000000 in
set_option maxRecDepth 100000 in
theorem c_Qu_seal {l : Launch} {dC : Nat → ClassId} {dI : Nat → Nat → Nat} {A : Nat → Prop} {a : Nat → Nat} {cB cI cL : ClassId} {h1 h2 s1 s2 : Nat} {op : Bool} {nx wt sf lf dn : Nat} {dg : Nat → Nat} {un : Nat} {ug : Nat → Nat} {qn : Nat} {qt qg : Nat → Nat} {tn : Nat} {tk tv : Nat → Int64} {ts : Nat → Nat} {ef eg ex : Nat} {eF : Nat → Nat} {pf pg px : Nat} {pF : Nat → Nat} (hq : qn ≤ 64) (hqt : ∀ j, qt j < 64) (hqg : ∀ j, qg j < 256) (i : Nat) (hi : i < qn) : Met l yX2_seal (Cond.code yX2_seal cX2_seal 2 none :: TB) { frames := 3, cells := 0, slots := 0, locals := 73 } (xPre Nst (dC, dI) A (tyS cB cI cL) (wS a cB cI cL h1 h2 s1 s2 op nx wt sf lf dn dg un ug qn qt qg tn tk tv ts ef eg ex eF pf pg px pF) [.ref (a 5), .int (nI i)]) (xQv (dC, dI) A (wS a cB cI cL h1 h2 s1 s2 op nx wt sf lf dn dg un ug qn qt (qsl i qt qg) tn tk tv ts ef eg ex eF pf pg px pF)) 0 0 A := by
  refine x_ofWv (cc := cX2_seal) (maxL := 2) (by decide) rfl (Nat.le_of_ble_eq_true rfl) ?_
  intro p e s m args below meth c Q hx hb hml hts hown hK hN hP hD hS hret ls hl
  have hl : lv_has ls 2 [(0, .ref (a 5)), (1, .int (nI i))] := hl
  have hown : s.vm.findClass RX2 = some m.cls := hown
  have q1 := hqt i
  have f14 := hts _ (List.mem_cons_of_mem _ tw_149)
  have in_X2 := (fun q hq => List.mem_cons_of_mem _ (inX2 q hq) : ∀ q ∈ wsX20, q ∈ (Cond.code yX2_seal cX2_seal 2 none :: TB))
  have n39 := hN (.methodLinkNest RX2 39 yX0_sum "SegmentLog") (by decide +kernel)
  have ini_X0 := hts _ (List.mem_cons_of_mem _ tw_85)
  have im_yX0_sum := hts _ (List.mem_cons_of_mem _ tw_341)
  have se_yX0_sum := hts _ (List.mem_cons_of_mem _ tw_24)
  have n43 := hN (.methodLinkNest RX2 43 yX0_putNumber "SegmentLog") (by decide +kernel)
  have im_yX0_putNumber := hts _ (List.mem_cons_of_mem _ tw_308)
  have se_yX0_putNumber := hts _ (List.mem_cons_of_mem _ tw_16)
  refine lv_aload_n hx hb dX2_seal_0 rfl (lv_at hl 0 rfl) ?_
  refine va_get (D := (dC, dI)) (ci := 2) (v := .ref (a 6)) (C := RX2) (T := TX2) (N := 3) hx hb hts in_X2 hown hK hP 5 rfl rfl 0 (by decide) f14 (fun _ h9 => h9) rfl dX2_seal_1 ?_
  refine lv_iload_n hx hb dX2_seal_4 rfl (lv_at hl 1 rfl) ?_
  refine lv_bipush (v := nI 56) hx hb dX2_seal_5 (by decide) ?_
  refine lv_bipush (v := nI 8) hx hb dX2_seal_7 (by decide) ?_
  refine lv_aload_n hx hb dX2_seal_9 rfl (lv_at hl 0 rfl) ?_
  refine va_get (D := (dC, dI)) (ci := 2) (v := .ref (a 6)) (C := RX2) (T := TX2) (N := 3) hx hb hts in_X2 hown hK hP 5 rfl rfl 0 (by decide) f14 (fun _ h9 => h9) rfl dX2_seal_10 ?_
  refine lv_iload_n hx hb dX2_seal_13 rfl (lv_at hl 1 rfl) ?_
  refine lv_aload_n hx hb dX2_seal_14 rfl (lv_at hl 0 rfl) ?_
  refine lv_iload_n hx hb dX2_seal_15 rfl (lv_at hl 1 rfl) ?_
  refine x_calli (va_runV (As := [.int (nI i)]) (rest := [.int (nI i), .ref (a 6), .int (nI 8), .int (nI 56), .int (nI i), .ref (a 6)]) ⟨hx, hb, hml, hown, hts⟩ (c_Qu_targetN (by omega) i (by omega)) (cwV 1 hts (tbV tw_335 tw_337 tw_23 tw_88 tw_338) rfl rfl rfl (by decide +kernel) ⟨Nat.le_of_ble_eq_true rfl, Nat.le_of_ble_eq_true rfl⟩) ⟨x_blind, va_recv hK hP (ci := 2) (q0 := 5) rfl rfl, x_pre hK hP hD hN⟩ rfl rfl hl.1 rfl (lv_room (Nat.le_of_ble_eq_true rfl)) dX2_seal_16 ⟨Nat.zero_le _, Nat.zero_le _⟩) hS (fun H locs hP hD hS => ?_)
  have hP : va_P (dC, dI) vwCl (wS a cB cI cL h1 h2 s1 s2 op nx wt sf lf dn dg un ug qn qt qg tn tk tv ts ef eg ex eF pf pg px pF) H := hP
  have hD : va_D A (wS a cB cI cL h1 h2 s1 s2 op nx wt sf lf dn dg un ug qn qt qg tn tk tv ts ef eg ex eF pf pg px pF) := hD
  refine x_calll (va_runVN (As := [.int (nI i), .int (nI (qt i))]) (rest := [.int (nI 8), .int (nI 56), .int (nI i), .ref (a 6)]) ⟨hx, hb, hml, hown, hts⟩ (c_Bl_sum (show okB (fun qg' => wS a cB cI cL h1 h2 s1 s2 op nx wt sf lf dn dg un ug qn qt qg' tn tk tv ts ef eg ex eF pf pg px pF) 6 7 (a 6) (a 7) cB 64 from ⟨fun _ => rfl, fun _ => rfl, fun _ _ => rfl⟩) (tyS_B cB cI cL) (by omega) qg hqg i (qt i) (by omega) (by omega)) ⟨(va_cnB 2 hts (tbG tw_342) rfl rfl rfl n39 ini_X0 (by decide +kernel) ⟨Nat.le_of_ble_eq_true rfl, Nat.le_of_ble_eq_true rfl⟩), im_yX0_sum, se_yX0_sum⟩ ⟨x_blind, va_recv hK hP (ci := 0) (q0 := 6) rfl rfl, x_pre hK hP hD hN⟩ rfl rfl hl.1 rfl (lv_room (Nat.le_of_ble_eq_true rfl)) dX2_seal_19 ⟨Nat.zero_le _, Nat.zero_le _⟩) hS (fun H locs hP hD hS => ?_)
  have hP : va_P (dC, dI) vwCl (wS a cB cI cL h1 h2 s1 s2 op nx wt sf lf dn dg un ug qn qt qg tn tk tv ts ef eg ex eF pf pg px pF) H := hP
  have hD : va_D A (wS a cB cI cL h1 h2 s1 s2 op nx wt sf lf dn dg un ug qn qt qg tn tk tv ts ef eg ex eF pf pg px pF) := hD
  refine x_callv (va_runVN (As := [.int (nI i), .int (nI 56), .int (nI 8), .long (smG 64 qg i (qt i))]) (rest := []) ⟨hx, hb, hml, hown, hts⟩ (c_Bl_putLong (show okB (fun qg' => wS a cB cI cL h1 h2 s1 s2 op nx wt sf lf dn dg un ug qn qt qg' tn tk tv ts ef eg ex eF pf pg px pF) 6 7 (a 6) (a 7) cB 64 from ⟨fun _ => rfl, fun _ => rfl, fun _ _ => rfl⟩) (tyS_B cB cI cL) (by omega) qg hqg i 56 8 (smG 64 qg i (qt i)) (by omega) (by omega)) ⟨(va_cnB 4 hts (tbG tw_309) rfl rfl rfl n43 ini_X0 (by decide +kernel) ⟨Nat.le_of_ble_eq_true rfl, Nat.le_of_ble_eq_true rfl⟩), im_yX0_putNumber, se_yX0_putNumber⟩ ⟨x_blind, va_recv hK hP (ci := 0) (q0 := 6) rfl rfl, x_pre hK hP hD hN⟩ rfl rfl hl.1 rfl (lv_room (Nat.le_of_ble_eq_true rfl)) dX2_seal_22 ⟨Nat.zero_le _, Nat.zero_le _⟩) hS (fun H locs hP hD hS => ?_)
  have hP : va_P (dC, dI) vwCl (wS a cB cI cL h1 h2 s1 s2 op nx wt sf lf dn dg un ug qn qt (pnum 64 i 8 qg 56 (uL (smG 64 qg i (qt i)))) tn tk tv ts ef eg ex eF pf pg px pF) H := hP
  have hD : va_D A (wS a cB cI cL h1 h2 s1 s2 op nx wt sf lf dn dg un ug qn qt (pnum 64 i 8 qg 56 (uL (smG 64 qg i (qt i)))) tn tk tv ts ef eg ex eF pf pg px pF) := hD
  have e1 : (pnum 64 i 8 qg 56 (uL (smG 64 qg i (qt i)))) = (qsl i qt qg) := by rfl
  have h9 : wS a cB cI cL h1 h2 s1 s2 op nx wt sf lf dn dg un ug qn qt (pnum 64 i 8 qg 56 (uL (smG 64 qg i (qt i)))) tn tk tv ts ef eg ex eF pf pg px pF = wS a cB cI cL h1 h2 s1 s2 op nx wt sf lf dn dg un ug qn qt (qsl i qt qg) tn tk tv ts ef eg ex eF pf pg px pF := by rw [e1]
  have hP := x_wP h9 hP
  have hD := x_wD h9 hD
  exact hret dX2_seal_25 hP hD hS

set_option maxHeartbeats 4000000 in
set_option maxRecDepth 100000 in
theorem c_Qu_drain {l : Launch} {dC : Nat → ClassId} {dI : Nat → Nat → Nat} {A : Nat → Prop} {a : Nat → Nat} {cB cI cL : ClassId} {h1 h2 s1 s2 : Nat} {op : Bool} {nx wt sf lf dn : Nat} {dg : Nat → Nat} {un : Nat} {ug : Nat → Nat} {qn : Nat} {qt qg : Nat → Nat} {tn : Nat} {tk tv : Nat → Int64} {ts : Nat → Nat} {ef eg ex : Nat} {eF : Nat → Nat} {pf pg px : Nat} {pF : Nat → Nat} (hq : qn ≤ 64) (hdn : dn ≤ 64) (hqt : ∀ j, qt j < 64) (hqg : ∀ j, qg j < 256) (hdg : ∀ j, dg j < 256) (k : Nat) (hk1 : k < 2 ^ 31) : Met l yX2_drain (Cond.code yX2_drain cX2_drain 7 (some .int) :: TB) { frames := 2, cells := 0, slots := 0, locals := 45 } (xPre Nst (dC, dI) A (tyS cB cI cL) (wS a cB cI cL h1 h2 s1 s2 op nx wt sf lf dn dg un ug qn qt qg tn tk tv ts ef eg ex eF pf pg px pF) [.ref (a 5), .ref (a 1), .int (nI k)]) (xQi (dC, dI) A (nI ((min k (qn * 64)) / 64)) (wS a cB cI cL h1 h2 s1 s2 op nx wt sf lf dn (qdr dn qt qg (min k (qn * 64)) 0 dg) un ug 0 qt qg tn tk tv ts ef eg ex eF pf pg px pF)) 0 0 A := by
  refine x_ofWi (cc := cX2_drain) (maxL := 7) (by decide) rfl (Nat.le_of_ble_eq_true rfl) ?_
  intro p e s m args below meth c Q hx hb hml hts hown hK hN hP hD hS hret ls hl
  have hl : lv_has ls 7 [(0, .ref (a 5)), (1, .ref (a 1)), (2, .int (nI k))] := hl
  have hown : s.vm.findClass RX2 = some m.cls := hown
  have m51a := hts _ (List.mem_cons_of_mem _ tw_367)
  have mminb := hts _ (List.mem_cons_of_mem _ tw_127)
  have mMath := hts _ (List.mem_cons_of_mem _ tw_87)
  have mminc := hts _ (List.mem_cons_of_mem _ tw_128)
  have f24 := hts _ (List.mem_cons_of_mem _ tw_152)
  have in_X2 := (fun q hq => List.mem_cons_of_mem _ (inX2 q hq) : ∀ q ∈ wsX20, q ∈ (Cond.code yX2_drain cX2_drain 7 (some .int) :: TB))
  have f14 := hts _ (List.mem_cons_of_mem _ tw_149)
  have n57 := hN (.methodLinkNest RX2 57 yX0_value "SegmentLog") (by decide +kernel)
  have ini_X0 := hts _ (List.mem_cons_of_mem _ tw_85)
  have im_yX0_value := hts _ (List.mem_cons_of_mem _ tw_345)
  have se_yX0_value := hts _ (List.mem_cons_of_mem _ tw_25)
  have n35 := hN (.methodLinkNest RX2 35 yX0_put "SegmentLog") (by decide +kernel)
  have im_yX0_put := hts _ (List.mem_cons_of_mem _ tw_256)
  have se_yX0_put := hts _ (List.mem_cons_of_mem _ tw_5)
  refine lv_iload_n hx hb dX2_drain_0 rfl (lv_at hl 2 rfl) ?_
  refine lv_aload_n hx hb dX2_drain_1 rfl (lv_at hl 0 rfl) ?_
  refine x_calli (va_runV (As := []) (rest := [.int (nI k)]) ⟨hx, hb, hml, hown, hts⟩ c_Qu_bytes (cwV 0 hts (tbV tw_366 tw_360 tw_26 tw_88 tw_361) rfl rfl rfl (by decide +kernel) ⟨Nat.le_of_ble_eq_true rfl, Nat.le_of_ble_eq_true rfl⟩) ⟨x_blind, va_recv hK hP (ci := 2) (q0 := 5) rfl rfl, x_pre hK hP hD hN⟩ rfl rfl hl.1 rfl (lv_room (Nat.le_of_ble_eq_true rfl)) dX2_drain_2 ⟨Nat.zero_le _, Nat.zero_le _⟩) hS (fun H locs hP hD hS => ?_)
  have hP : va_P (dC, dI) vwCl (wS a cB cI cL h1 h2 s1 s2 op nx wt sf lf dn dg un ug qn qt qg tn tk tv ts ef eg ex eF pf pg px pF) H := hP
  have hD : va_D A (wS a cB cI cL h1 h2 s1 s2 op nx wt sf lf dn dg un ug qn qt qg tn tk tv ts ef eg ex eF pf pg px pF) := hD
  refine x_mmin hx hb (by rw [hml]; exact hl.1.symm) hown m51a mminb mMath mminc (by decide) (Nat.le_of_ble_eq_true rfl) (by decide) (by decide) (by omega) (by omega) dX2_drain_5 ?_
  refine lv_istore_n (lv' := [(3, .int (nI (min k (qn * 64)))), (0, .ref (a 5)), (1, .ref (a 1)), (2, .int (nI k))]) hx hb dX2_drain_8 rfl hl (by decide) rfl (fun ls hl => ?_)
  refine lv_iconst (v := nI 0) hx hb dX2_drain_9 (by decide) ?_
  refine lv_istore (lv' := [(4, .int (nI 0)), (3, .int (nI (min k (qn * 64)))), (0, .ref (a 5)), (1, .ref (a 1)), (2, .int (nI k))]) hx hb dX2_drain_10 hl (by decide) rfl (fun ls hl => ?_)
  have L12 : ∀ (fu12 : Nat) (j : Nat) (d' : Nat → Nat), (min k (qn * 64) - j < fu12) → (j ≤ min k (qn * 64)) → (∀ q, d' q < 256) → (qdr dn qt qg (min k (qn * 64) - j) j d' = qdr dn qt qg (min k (qn * 64)) 0 dg) → ∀ (H : Heap) (locs : List Loc), va_P (dC, dI) vwCl (wS a cB cI cL h1 h2 s1 s2 op nx wt sf lf dn d' un ug qn qt qg tn tk tv ts ef eg ex eF pf pg px pF) H → va_D A (wS a cB cI cL h1 h2 s1 s2 op nx wt sf lf dn d' un ug qn qt qg tn tk tv ts ef eg ex eF pf pg px pF) → va_S A s.heap H locs → ∀ (ls : Array Slot), lv_has ls 7 [(0, .ref (a 5)), (1, .ref (a 1)), (2, .int (nI k)), (3, .int (nI (min k (qn * 64)))), (4, .int (nI j))] → W p l e { frames := 2, cells := 0, slots := 0, locals := 45 } s m args below meth c H locs 0 0 Q (F0 m 12 ls []) := by
    intro fu12
    induction fu12 with
    | zero => intro j d' hm; exact absurd hm (Nat.not_lt_zero _)
    | succ fu12 ih12 =>
      intro j d' hm i12_0 i12_1 i12_2 H locs hP hD hS ls hl
      have q1 := hqt (j / 64)
      refine lv_iload hx hb dX2_drain_12 (lv_at hl 4 rfl) ?_
      refine lv_iload_n hx hb dX2_drain_14 rfl (lv_at hl 3 rfl) ?_
      refine x_icmp_ge (tgt := 61) hx hb dX2_drain_15 (by decide) (by omega) (by omega) (fun c15 => ?_) (fun c15 => ?_)
      · refine lv_aload_n hx hb dX2_drain_61 rfl (lv_at hl 0 rfl) ?_
        refine lv_iconst (v := nI 0) hx hb dX2_drain_62 (by decide) ?_
        refine va_put (D := (dC, dI)) (ci := 2) (v := .int (nI 0)) (ty := .int) (C := RX2) (T := TX2) (N := 3) hx hb hts in_X2 tyX2 tyX2_ok nmX2 hown hK hP hD hS 5 rfl rfl 2 (by decide) f24 (fun _ h9 => h9) rfl (by decide +kernel) rfl rfl (Nat.le_of_ble_eq_true rfl) dX2_drain_63 (fun H locs hP hD hS => ?_)
        have hP : va_P (dC, dI) vwCl (wS a cB cI cL h1 h2 s1 s2 op nx wt sf lf dn d' un ug 0 qt qg tn tk tv ts ef eg ex eF pf pg px pF) H := hP
        have hD : va_D A (wS a cB cI cL h1 h2 s1 s2 op nx wt sf lf dn d' un ug 0 qt qg tn tk tv ts ef eg ex eF pf pg px pF) := hD
        refine lv_iload_n hx hb dX2_drain_66 rfl (lv_at hl 3 rfl) ?_
        refine lv_bipush (v := nI 64) hx hb dX2_drain_67 (by decide) ?_
        refine x_idiv hx hb dX2_drain_69 (by omega) (by omega) (by omega) ?_
        have e1 : d' = (qdr dn qt qg (min k (qn * 64)) 0 dg) := by have h := i12_2; rw [show min k (qn * 64) - j = 0 by omega] at h; exact h
        have h9 : wS a cB cI cL h1 h2 s1 s2 op nx wt sf lf dn d' un ug 0 qt qg tn tk tv ts ef eg ex eF pf pg px pF = wS a cB cI cL h1 h2 s1 s2 op nx wt sf lf dn (qdr dn qt qg (min k (qn * 64)) 0 dg) un ug 0 qt qg tn tk tv ts ef eg ex eF pf pg px pF := by rw [← e1]
        have hP := x_wP h9 hP
        have hD := x_wD h9 hD
        exact hret dX2_drain_70 (by rfl) hP hD hS
      · refine lv_iload hx hb dX2_drain_18 (lv_at hl 4 rfl) ?_
        refine lv_bipush (v := nI 64) hx hb dX2_drain_20 (by decide) ?_
        refine x_idiv hx hb dX2_drain_22 (by omega) (by omega) (by omega) ?_
        refine lv_istore (lv' := [(5, .int (nI (j / 64))), (0, .ref (a 5)), (1, .ref (a 1)), (2, .int (nI k)), (3, .int (nI (min k (qn * 64)))), (4, .int (nI j))]) hx hb dX2_drain_23 hl (by decide) rfl (fun ls hl => ?_)
        refine lv_iload hx hb dX2_drain_25 (lv_at hl 5 rfl) ?_
        refine lv_bipush (v := nI 64) hx hb dX2_drain_27 (by decide) ?_
        refine x_irem hx hb dX2_drain_29 (by omega) (by omega) (by omega) ?_
        refine lv_istore (lv' := [(6, .int (nI (j % 64))), (5, .int (nI (j / 64))), (0, .ref (a 5)), (1, .ref (a 1)), (2, .int (nI k)), (3, .int (nI (min k (qn * 64)))), (4, .int (nI j))]) hx hb dX2_drain_30 hl (by decide) rfl (fun ls hl => ?_)
        refine lv_aload_n hx hb dX2_drain_32 rfl (lv_at hl 3 rfl) ?_
        refine lv_aload_n hx hb dX2_drain_33 rfl (lv_at hl 2 rfl) ?_
        refine lv_iload hx hb dX2_drain_34 (lv_at hl 1 rfl) ?_
        refine x_calli (va_runV (As := [.int (nI (j / 64))]) (rest := [.ref (a 1)]) ⟨hx, hb, hml, hown, hts⟩ (c_Qu_targetN (by omega) (j / 64) (by omega)) (cwV 1 hts (tbV tw_335 tw_337 tw_23 tw_88 tw_338) rfl rfl rfl (by decide +kernel) ⟨Nat.le_of_ble_eq_true rfl, Nat.le_of_ble_eq_true rfl⟩) ⟨x_blind, va_recv hK hP (ci := 2) (q0 := 5) rfl rfl, x_pre hK hP hD hN⟩ rfl rfl hl.1 rfl (lv_room (Nat.le_of_ble_eq_true rfl)) dX2_drain_36 ⟨Nat.zero_le _, Nat.zero_le _⟩) hS (fun H locs hP hD hS => ?_)
        have hP : va_P (dC, dI) vwCl (wS a cB cI cL h1 h2 s1 s2 op nx wt sf lf dn d' un ug qn qt qg tn tk tv ts ef eg ex eF pf pg px pF) H := hP
        have hD : va_D A (wS a cB cI cL h1 h2 s1 s2 op nx wt sf lf dn d' un ug qn qt qg tn tk tv ts ef eg ex eF pf pg px pF) := hD
        refine lv_iload hx hb dX2_drain_39 (lv_at hl 0 rfl) ?_
        refine lv_aload_n hx hb dX2_drain_41 rfl (lv_at hl 2 rfl) ?_
        refine va_get (D := (dC, dI)) (ci := 2) (v := .ref (a 6)) (C := RX2) (T := TX2) (N := 3) hx hb hts in_X2 hown hK hP 5 rfl rfl 0 (by decide) f14 (fun _ h9 => h9) rfl dX2_drain_42 ?_
        refine lv_iload hx hb dX2_drain_45 (lv_at hl 1 rfl) ?_
        refine lv_iload hx hb dX2_drain_47 (lv_at hl 0 rfl) ?_
        refine x_calli (va_runVN (As := [.int (nI (j / 64)), .int (nI (j % 64))]) (rest := [.int (nI (j % 64)), .int (nI (qt (j / 64))), .ref (a 1)]) ⟨hx, hb, hml, hown, hts⟩ (c_Bl_value (show okB (fun qg' => wS a cB cI cL h1 h2 s1 s2 op nx wt sf lf dn d' un ug qn qt qg' tn tk tv ts ef eg ex eF pf pg px pF) 6 7 (a 6) (a 7) cB 64 from ⟨fun _ => rfl, fun _ => rfl, fun _ _ => rfl⟩) (tyS_B cB cI cL) (by omega) qg hqg (j / 64) (j % 64) (by omega) (by omega)) ⟨(va_cnB 2 hts (tbG tw_346) rfl rfl rfl n57 ini_X0 (by decide +kernel) ⟨Nat.le_of_ble_eq_true rfl, Nat.le_of_ble_eq_true rfl⟩), im_yX0_value, se_yX0_value⟩ ⟨x_blind, va_recv hK hP (ci := 0) (q0 := 6) rfl rfl, x_pre hK hP hD hN⟩ rfl rfl hl.1 rfl (lv_room (Nat.le_of_ble_eq_true rfl)) dX2_drain_49 ⟨Nat.zero_le _, Nat.zero_le _⟩) hS (fun H locs hP hD hS => ?_)
        have hP : va_P (dC, dI) vwCl (wS a cB cI cL h1 h2 s1 s2 op nx wt sf lf dn d' un ug qn qt qg tn tk tv ts ef eg ex eF pf pg px pF) H := hP
        have hD : va_D A (wS a cB cI cL h1 h2 s1 s2 op nx wt sf lf dn d' un ug qn qt qg tn tk tv ts ef eg ex eF pf pg px pF) := hD
        have hv49 : bv 64 qg (j / 64) (j % 64) < 256 := bv_lt hqg
        refine x_callv (va_runVN (As := [.int (nI (qt (j / 64))), .int (nI (j % 64)), .int (nI (bv 64 qg (j / 64) (j % 64)))]) (rest := []) ⟨hx, hb, hml, hown, hts⟩ (c_Bl_put (show okB (fun dg' => wS a cB cI cL h1 h2 s1 s2 op nx wt sf lf dn dg' un ug qn qt qg tn tk tv ts ef eg ex eF pf pg px pF) 1 2 (a 1) (a 2) cB dn from ⟨fun _ => rfl, fun _ => rfl, fun _ _ => rfl⟩) (tyS_B cB cI cL) (by omega) d' (qt (j / 64)) (j % 64) (bv 64 qg (j / 64) (j % 64)) (by omega) (by omega) (by omega)) ⟨(va_cnB 3 hts (tbG tw_257) rfl rfl rfl n35 ini_X0 (by decide +kernel) ⟨Nat.le_of_ble_eq_true rfl, Nat.le_of_ble_eq_true rfl⟩), im_yX0_put, se_yX0_put⟩ ⟨x_blind, va_recv hK hP (ci := 0) (q0 := 1) rfl rfl, x_pre hK hP hD hN⟩ rfl rfl hl.1 rfl (lv_room (Nat.le_of_ble_eq_true rfl)) dX2_drain_52 ⟨Nat.zero_le _, Nat.zero_le _⟩) hS (fun H locs hP hD hS => ?_)
        have hP : va_P (dC, dI) vwCl (wS a cB cI cL h1 h2 s1 s2 op nx wt sf lf dn (bput dn d' (qt (j / 64)) (j % 64) (bv 64 qg (j / 64) (j % 64))) un ug qn qt qg tn tk tv ts ef eg ex eF pf pg px pF) H := hP
        have hD : va_D A (wS a cB cI cL h1 h2 s1 s2 op nx wt sf lf dn (bput dn d' (qt (j / 64)) (j % 64) (bv 64 qg (j / 64) (j % 64))) un ug qn qt qg tn tk tv ts ef eg ex eF pf pg px pF) := hD
        refine lv_iinc (v := nI (j + 1)) (lv' := [(4, .int (nI (j + 1))), (6, .int (nI (j % 64))), (5, .int (nI (j / 64))), (0, .ref (a 5)), (1, .ref (a 1)), (2, .int (nI k)), (3, .int (nI (min k (qn * 64))))]) hx hb dX2_drain_55 hl (k := 6) rfl (x_inc _) (by decide) rfl (fun ls hl => ?_)
        refine lv_goto (tgt := 12) hx hb dX2_drain_58 (by decide) ?_
        exact ih12 (j + 1) (bput dn d' (qt (j / 64)) (j % 64) (bv 64 qg (j / 64) (j % 64))) (by omega) (by omega) (by exact bput_lt i12_1) (by have h := i12_2; rw [show min k (qn * 64) - j = (min k (qn * 64) - (j + 1)) + 1 by omega, qdr] at h; exact h) _ _ hP hD hS ls (lv_sub hl [3, 4, 5, 6, 0] rfl)
  exact L12 (min k (qn * 64) - 0 + 1) 0 dg (by omega) (by omega) (by exact hdg) (by rfl) _ _ hP hD hS ls (lv_sub hl [2, 3, 4, 1, 0] rfl)
end
section

theorem hfl_lt {n : Nat} {f : Nat → Nat} (hf : ∀ j, f j < 1048576) {i w : Nat} : hfl n f i w < 1048576 := by
  unfold hfl
  split
  · exact hf _
  · decide
theorem hap_lt {n : Nat} {f : Nat → Nat} (hf : ∀ j, f j < 1048576) {a b c d : Nat} (ha : a < 1048576) (hb : b < 1048576) (hc : c < 1048576) (hd : d < 1048576) : ∀ j, hap n f a b c d j < 1048576 := va_up_lt (va_up_lt (va_up_lt (va_up_lt hf ha) hb) hc) hd
def hov (n : Nat) (f : Nat → Nat) (y z : Nat) : Nat → Nat → Bool
  | 0, _ => false
  | k + 1, i => if y < hfl n f i 1 + hfl n f i 2 ∧ hfl n f i 1 < y + z then true else hov n f y z k (i + 1)
theorem num2_lt {n : Nat} {g : Nat → Nat} {b : Nat} (hg : ∀ j, g j < 256) (i : Nat) : num n g b 2 i < 65536 := num_lt hg 2 i
/-- a head's files, read from block b: whether all are good, how many, their fields -/
def hrfL (dn : Nat) (dg : Nat → Nat) (b : Nat) : Nat → Nat → Nat → (Nat → Nat) → Bool × Nat × (Nat → Nat)
  | 0, _, f, F => (true, f, F)
  | k + 1, i, f, F =>
    if 2 ≤ num dn dg b 2 (8 + 2 * (i * 4 + 1)) ∧ 1 ≤ num dn dg b 2 (8 + 2 * (i * 4 + 2)) ∧ num dn dg b 2 (8 + 2 * (i * 4 + 1)) + num dn dg b 2 (8 + 2 * (i * 4 + 2)) ≤ dn ∧ (num dn dg b 2 (8 + 2 * (i * 4 + 3)) + 2) / 3 = num dn dg b 2 (8 + 2 * (i * 4 + 2)) ∧ hov f F (num dn dg b 2 (8 + 2 * (i * 4 + 1))) (num dn dg b 2 (8 + 2 * (i * 4 + 2))) f 0 = false
    then hrfL dn dg b k (i + 1) (f + 1) (hap f F (num dn dg b 2 (8 + 2 * (i * 4 + 0))) (num dn dg b 2 (8 + 2 * (i * 4 + 1))) (num dn dg b 2 (8 + 2 * (i * 4 + 2))) (num dn dg b 2 (8 + 2 * (i * 4 + 3))))
    else (false, f, F)
def hrf (dn : Nat) (dg : Nat → Nat) (b : Nat) (F : Nat → Nat) : Bool × Nat × (Nat → Nat) := if bv dn dg b 1 ≤ 5 then hrfL dn dg b (bv dn dg b 1) 0 0 F else (false, 0, F)
theorem hrfL_lt {dn : Nat} {dg : Nat → Nat} {b : Nat} (hg : ∀ j, dg j < 256) : ∀ (k i f : Nat) (F : Nat → Nat), (∀ j, F j < 1048576) → ∀ j, (hrfL dn dg b k i f F).2.2 j < 1048576
  | 0, _, _, _, hF => hF
  | k + 1, i, f, F, hF => by
    rw [hrfL]
    split
    · have w0 := num2_lt (n := dn) (b := b) hg (8 + 2 * (i * 4 + 0))
      have w1 := num2_lt (n := dn) (b := b) hg (8 + 2 * (i * 4 + 1))
      have w2 := num2_lt (n := dn) (b := b) hg (8 + 2 * (i * 4 + 2))
      have w3 := num2_lt (n := dn) (b := b) hg (8 + 2 * (i * 4 + 3))
      exact hrfL_lt hg k (i + 1) (f + 1) _ (hap_lt hF (by omega) (by omega) (by omega) (by omega))
    · exact hF
theorem hrf_lt {dn : Nat} {dg : Nat → Nat} {b : Nat} {F : Nat → Nat} (hg : ∀ j, dg j < 256) (hF : ∀ j, F j < 1048576) : ∀ j, (hrf dn dg b F).2.2 j < 1048576 := by
  unfold hrf
  split
  · exact hrfL_lt hg _ _ _ _ hF
  · exact hF
/-- the head's generation and next sequence are such as may count -/
def hrk (dn : Nat) (dg : Nat → Nat) (b : Nat) : Bool := decide (1 ≤ num dn dg b 6 2 ∧ num dn dg b 6 2 ≤ 1000000000 ∧ 1 ≤ num dn dg b 8 48 ∧ num dn dg b 8 48 ≤ 1000000000 ∧ num dn dg b 6 2 % 2 = b)
/-- what reading a head leaves: files, generation, next, fields -/
def hrd (dn : Nat) (dg : Nat → Nat) (b : Nat) (F : Nat → Nat) : Nat × Nat × Nat × (Nat → Nat) :=
  if whole dn dg b = true ∧ bv dn dg b 0 = 3 then
    if hrk dn dg b = true then
      if (hrf dn dg b F).1 = true then ((hrf dn dg b F).2.1, num dn dg b 6 2, num dn dg b 8 48, (hrf dn dg b F).2.2) else (0, 0, 1, (hrf dn dg b F).2.2)
    else (0, 0, 1, F)
  else (0, 0, 1, F)
theorem lN_toI {v : Nat} (h : v < 2 ^ 64) : (lN v).toInt = if v < 2 ^ 63 then (v : Int) else (v : Int) - 2 ^ 64 := by
  have h1 : (lN v).toInt = (BitVec.ofNat 64 v).toInt := rfl
  rw [h1, BitVec.toInt_eq_toNat_cond, BitVec.toNat_ofNat, Nat.mod_eq_of_lt h]
  split <;> split <;> omega
theorem inr_t {v : Nat} (hv : v < 2 ^ 64) (c3 : ¬ lN v < lN 1) (c11 : ¬ lN 1000000000 < lN v) : nI 1 = bI (decide (1 ≤ v ∧ v ≤ 1000000000)) := by
  rw [Int64.lt_iff_toInt_lt, lN_toI hv, lN_toI (by decide)] at c3 c11
  rw [decide_eq_true]
  · rfl
  · split at c3 <;> simp at c3 c11 <;> omega
theorem inr_f {v : Nat} (hv : v < 2 ^ 64) (h : lN v < lN 1 ∨ lN 1000000000 < lN v) : nI 0 = bI (decide (1 ≤ v ∧ v ≤ 1000000000)) := by
  rw [Int64.lt_iff_toInt_lt, Int64.lt_iff_toInt_lt, lN_toI hv, lN_toI (by decide), lN_toI (by decide)] at h
  rw [decide_eq_false]
  · rfl
  · split at h <;> simp at h <;> omega
theorem x_lrem2 {v : Nat} (h : v < 2 ^ 63) : lN v - lN v / lN 2 * (lN 2) = lN (v % 2) := pk_lRem h (by decide) (by decide)
def okH (Wh : Nat → Nat → Nat → (Nat → Nat) → va_W) (k0 k1 a0 a1 : Nat) (cI : ClassId) : Prop :=
  (∀ (f g x : Nat) (F : Nat → Nat), (Wh f g x F)[k0]? = some (a0, .inr (1, [.ref a1, .int (nI f), .int (nI g), .int (nI x)]))) ∧ (∀ (f g x : Nat) (F : Nat → Nat), (Wh f g x F)[k1]? = some (a1, .inl (cI, 20, .inl (fun j => nI (F j)))))
  ∧ (∀ (f g x : Nat) (F : Nat → Nat) (f' g' x' : Nat), (Wh f g x F).set k0 (a0, .inr (1, [.ref a1, .int (nI f'), .int (nI g'), .int (nI x')])) = Wh f' g' x' F) ∧ (∀ (f g x : Nat) (F F' : Nat → Nat), (Wh f g x F).set k1 (a1, .inl (cI, 20, .inl (fun j => nI (F' j)))) = Wh f g x F')
end
section
set_option maxHeartbeats 4000000 in
set_option maxRecDepth 100000 in
theorem c_He_fieldAt {l : Launch} {dC : Nat → ClassId} {dI : Nat → Nat → Nat} {A : Nat → Prop} {tys : List (ClassId × FieldType)} {ws : va_W} (i w : Nat) : Met l yX1_fieldAt (Cond.code yX1_fieldAt cX1_fieldAt 2 (some .int) :: TB) { frames := 0, cells := 0, slots := 0, locals := 0 } (xPre Nst (dC, dI) A tys (ws) [.int (nI i), .int (nI w)]) (xQi (dC, dI) A (nI (8 + 2 * (i * 4 + w))) (ws)) 0 0 A := by
  refine x_ofWi (cc := cX1_fieldAt) (maxL := 2) (by decide) rfl (Nat.le_of_ble_eq_true rfl) ?_
  intro p e s m args below meth c Q hx hb hml hts hown hK hN hP hD hS hret ls hl
  have hl : lv_has ls 2 [(0, .int (nI i)), (1, .int (nI w))] := hl
  have hown : s.vm.findClass RX1 = some m.cls := hown
  refine lv_bipush (v := nI 8) hx hb dX1_fieldAt_0 (by decide) ?_
  refine lv_iconst (v := nI 2) hx hb dX1_fieldAt_2 (by decide) ?_
  refine lv_iload_n hx hb dX1_fieldAt_3 rfl (lv_at hl 0 rfl) ?_
  refine lv_iconst (v := nI 4) hx hb dX1_fieldAt_4 (by decide) ?_
  refine x_imul hx hb dX1_fieldAt_5 ?_
  refine lv_iload_n hx hb dX1_fieldAt_6 rfl (lv_at hl 1 rfl) ?_
  refine x_iadd hx hb dX1_fieldAt_7 ?_
  refine x_imul hx hb dX1_fieldAt_8 ?_
  refine x_iadd hx hb dX1_fieldAt_9 ?_
  exact hret dX1_fieldAt_10 (by rfl) hP hD hS

set_option maxHeartbeats 4000000 in
set_option maxRecDepth 100000 in
theorem c_He_inRange {l : Launch} {dC : Nat → ClassId} {dI : Nat → Nat → Nat} {A : Nat → Prop} {tys : List (ClassId × FieldType)} {ws : va_W} (v : Nat) (hv : v < 2 ^ 64) : Met l yX1_inRange (Cond.code yX1_inRange cX1_inRange 2 (some .boolean) :: TB) { frames := 0, cells := 0, slots := 0, locals := 0 } (xPre Nst (dC, dI) A tys (ws) [.long (lN v)]) (xQi (dC, dI) A (bI (decide (1 ≤ v ∧ v ≤ 1000000000))) (ws)) 0 0 A := by
  refine x_ofWz (cc := cX1_inRange) (maxL := 2) (by decide) rfl (Nat.le_of_ble_eq_true rfl) (x_narZ _) ?_
  intro p e s m args below meth c Q hx hb hml hts hown hK hN hP hD hS hret ls hl
  have hl : lv_has ls 2 [(0, .long (lN v))] := hl
  have hown : s.vm.findClass RX1 = some m.cls := hown
  refine lv_lload_n hx hb dX1_inRange_0 rfl (lv_at hl 0 rfl) ?_
  refine lv_lconst (v := lN 1) hx hb dX1_inRange_1 rfl ?_
  refine W.lcmp hx hb dX1_inRange_2 ?_
  refine x_lif_lt (tgt := 18) hx hb dX1_inRange_3 (by decide) (fun c3 => ?_) (fun c3 => ?_)
  · refine lv_iconst (v := nI 0) hx hb dX1_inRange_18 (by decide) ?_
    exact hret dX1_inRange_19 (by first | exact inr_t hv c3 c11 | exact inr_f hv (by first | exact Or.inl c3 | exact Or.inr c11)) hP hD hS
  · refine lv_lload_n hx hb dX1_inRange_6 rfl (lv_at hl 0 rfl) ?_
    refine lv_ldc2 (v := lN 1000000000) hx hb hown (hts _ (List.mem_cons_of_mem _ tw_460)) dX1_inRange_7 ?_
    refine W.lcmp hx hb dX1_inRange_10 ?_
    refine x_lif_gt (tgt := 18) hx hb dX1_inRange_11 (by decide) (fun c11 => ?_) (fun c11 => ?_)
    · refine lv_iconst (v := nI 0) hx hb dX1_inRange_18 (by decide) ?_
      exact hret dX1_inRange_19 (by first | exact inr_t hv c3 c11 | exact inr_f hv (by first | exact Or.inl c3 | exact Or.inr c11)) hP hD hS
    · refine lv_iconst (v := nI 1) hx hb dX1_inRange_14 (by decide) ?_
      refine lv_goto (tgt := 19) hx hb dX1_inRange_15 (by decide) ?_
      exact hret dX1_inRange_19 (by first | exact inr_t hv c3 c11 | exact inr_f hv (by first | exact Or.inl c3 | exact Or.inr c11)) hP hD hS

set_option maxHeartbeats 4000000 in
set_option maxRecDepth 100000 in
theorem c_SL_blocksFor {l : Launch} {dC : Nat → ClassId} {dI : Nat → Nat → Nat} {A : Nat → Prop} {tys : List (ClassId × FieldType)} {ws : va_W} (r : Nat) (hr1 : r < 2 ^ 30) : Met l yX5_blocksFor (Cond.code yX5_blocksFor cX5_blocksFor 1 (some .int) :: TB) { frames := 0, cells := 0, slots := 0, locals := 0 } (xPre Nst (dC, dI) A tys (ws) [.int (nI r)]) (xQi (dC, dI) A (nI ((r + 2) / 3)) (ws)) 0 0 A := by
  refine x_ofWi (cc := cX5_blocksFor) (maxL := 1) (by decide) rfl (Nat.le_of_ble_eq_true rfl) ?_
  intro p e s m args below meth c Q hx hb hml hts hown hK hN hP hD hS hret ls hl
  have hl : lv_has ls 1 [(0, .int (nI r))] := hl
  have hown : s.vm.findClass RX5 = some m.cls := hown
  refine lv_iload_n hx hb dX5_blocksFor_0 rfl (lv_at hl 0 rfl) ?_
  refine lv_iconst (v := nI 3) hx hb dX5_blocksFor_1 (by decide) ?_
  refine x_iadd hx hb dX5_blocksFor_2 ?_
  refine lv_iconst (v := nI 1) hx hb dX5_blocksFor_3 (by decide) ?_
  refine x_isub hx hb dX5_blocksFor_4 (by omega) ?_
  refine lv_iconst (v := nI 3) hx hb dX5_blocksFor_5 (by decide) ?_
  refine x_idiv hx hb dX5_blocksFor_6 (by omega) (by omega) (by omega) ?_
  exact hret dX5_blocksFor_7 (by rfl) hP hD hS

set_option maxHeartbeats 4000000 in
set_option maxRecDepth 100000 in
theorem c_SL_recordsAt {l : Launch} {dC : Nat → ClassId} {dI : Nat → Nat → Nat} {A : Nat → Prop} {tys : List (ClassId × FieldType)} {ws : va_W} (p1 r : Nat) (hp1 : p1 * 3 ≤ r) (hr1 : r < 2 ^ 30) : Met l yX5_recordsAt (Cond.code yX5_recordsAt cX5_recordsAt 2 (some .int) :: TB) { frames := 1, cells := 0, slots := 0, locals := 21 } (xPre Nst (dC, dI) A tys (ws) [.int (nI p1), .int (nI r)]) (xQi (dC, dI) A (nI (min 3 (r - p1 * 3))) (ws)) 0 0 A := by
  refine x_ofWi (cc := cX5_recordsAt) (maxL := 2) (by decide) rfl (Nat.le_of_ble_eq_true rfl) ?_
  intro p e s m args below meth c Q hx hb hml hts hown hK hN hP hD hS hret ls hl
  have hl : lv_has ls 2 [(0, .int (nI p1)), (1, .int (nI r))] := hl
  have hown : s.vm.findClass RX5 = some m.cls := hown
  have m200a := hts _ (List.mem_cons_of_mem _ tw_402)
  have mminb := hts _ (List.mem_cons_of_mem _ tw_127)
  have mMath := hts _ (List.mem_cons_of_mem _ tw_87)
  have mminc := hts _ (List.mem_cons_of_mem _ tw_128)
  refine lv_iconst (v := nI 3) hx hb dX5_recordsAt_0 (by decide) ?_
  refine lv_iload_n hx hb dX5_recordsAt_1 rfl (lv_at hl 1 rfl) ?_
  refine lv_iload_n hx hb dX5_recordsAt_2 rfl (lv_at hl 0 rfl) ?_
  refine lv_iconst (v := nI 3) hx hb dX5_recordsAt_3 (by decide) ?_
  refine x_imul hx hb dX5_recordsAt_4 ?_
  refine x_isub hx hb dX5_recordsAt_5 (by omega) ?_
  refine x_mmin hx hb (by rw [hml]; exact hl.1.symm) hown m200a mminb mMath mminc (by decide) (Nat.le_of_ble_eq_true rfl) (by decide) (by decide) (by omega) (by omega) dX5_recordsAt_6 ?_
  exact hret dX5_recordsAt_9 (by rfl) hP hD hS

set_option maxHeartbeats 4000000 in
set_option maxRecDepth 100000 in
theorem c_He_clear {l : Launch} {dC : Nat → ClassId} {dI : Nat → Nat → Nat} {A : Nat → Prop} {tys : List (ClassId × FieldType)} {Wh : Nat → Nat → Nat → (Nat → Nat) → va_W} {k0 k1 t1 a0 a1 : Nat} {cI : ClassId} (hW : okH Wh k0 k1 a0 a1 cI) (ht : tys[t1]? = some (cI, .int)) (f g x : Nat) (F : Nat → Nat) : Met l yX1_clear (Cond.code yX1_clear cX1_clear 1 none :: TB) { frames := 0, cells := 0, slots := 0, locals := 0 } (xPre Nst (dC, dI) A tys (Wh f g x F) [.ref a0]) (xQv (dC, dI) A (Wh 0 0 1 F)) 0 0 A := by
  refine x_ofWv (cc := cX1_clear) (maxL := 1) (by decide) rfl (Nat.le_of_ble_eq_true rfl) ?_
  intro p e s m args below meth c Q hx hb hml hts hown hK hN hP hD hS hret ls hl
  have hl : lv_has ls 1 [(0, .ref a0)] := hl
  have hown : s.vm.findClass RX1 = some m.cls := hown
  have f18 := hts _ (List.mem_cons_of_mem _ tw_193)
  have in_X1 := (fun q hq => List.mem_cons_of_mem _ (inX1 q hq) : ∀ q ∈ wsX10, q ∈ (Cond.code yX1_clear cX1_clear 1 none :: TB))
  have f22 := hts _ (List.mem_cons_of_mem _ tw_195)
  have f25 := hts _ (List.mem_cons_of_mem _ tw_197)
  refine lv_aload_n hx hb dX1_clear_0 rfl (lv_at hl 0 rfl) ?_
  refine lv_iconst (v := nI 0) hx hb dX1_clear_1 (by decide) ?_
  refine va_put (D := (dC, dI)) (ci := 1) (v := .int (nI 0)) (ty := .int) (C := RX1) (T := TX1) (N := 4) hx hb hts in_X1 tyX1 tyX1_ok nmX1 hown hK hP hD hS k0 (hW.1 _ _ _ _) rfl 1 (by decide) f18 (fun _ h9 => h9) rfl (by decide +kernel) rfl rfl (Nat.le_of_ble_eq_true rfl) dX1_clear_2 (fun H locs hP hD hS => ?_)
  have hP := x_wP (hW.2.2.1 _ _ _ _ 0 g x) hP
  have hD := x_wD (hW.2.2.1 _ _ _ _ 0 g x) hD
  have hP : va_P (dC, dI) vwCl (Wh 0 g x F) H := hP
  have hD : va_D A (Wh 0 g x F) := hD
  refine lv_aload_n hx hb dX1_clear_5 rfl (lv_at hl 0 rfl) ?_
  refine lv_iconst (v := nI 0) hx hb dX1_clear_6 (by decide) ?_
  refine va_put (D := (dC, dI)) (ci := 1) (v := .int (nI 0)) (ty := .int) (C := RX1) (T := TX1) (N := 4) hx hb hts in_X1 tyX1 tyX1_ok nmX1 hown hK hP hD hS k0 (hW.1 _ _ _ _) rfl 2 (by decide) f22 (fun _ h9 => h9) rfl (by decide +kernel) rfl rfl (Nat.le_of_ble_eq_true rfl) dX1_clear_7 (fun H locs hP hD hS => ?_)
  have hP := x_wP (hW.2.2.1 _ _ _ _ 0 0 x) hP
  have hD := x_wD (hW.2.2.1 _ _ _ _ 0 0 x) hD
  have hP : va_P (dC, dI) vwCl (Wh 0 0 x F) H := hP
  have hD : va_D A (Wh 0 0 x F) := hD
  refine lv_aload_n hx hb dX1_clear_10 rfl (lv_at hl 0 rfl) ?_
  refine lv_iconst (v := nI 1) hx hb dX1_clear_11 (by decide) ?_
  refine va_put (D := (dC, dI)) (ci := 1) (v := .int (nI 1)) (ty := .int) (C := RX1) (T := TX1) (N := 4) hx hb hts in_X1 tyX1 tyX1_ok nmX1 hown hK hP hD hS k0 (hW.1 _ _ _ _) rfl 3 (by decide) f25 (fun _ h9 => h9) rfl (by decide +kernel) rfl rfl (Nat.le_of_ble_eq_true rfl) dX1_clear_12 (fun H locs hP hD hS => ?_)
  have hP := x_wP (hW.2.2.1 _ _ _ _ 0 0 1) hP
  have hD := x_wD (hW.2.2.1 _ _ _ _ 0 0 1) hD
  have hP : va_P (dC, dI) vwCl (Wh 0 0 1 F) H := hP
  have hD : va_D A (Wh 0 0 1 F) := hD
  exact hret dX1_clear_15 hP hD hS

set_option maxHeartbeats 4000000 in
set_option maxRecDepth 100000 in
theorem c_He_field {l : Launch} {dC : Nat → ClassId} {dI : Nat → Nat → Nat} {A : Nat → Prop} {tys : List (ClassId × FieldType)} {Wh : Nat → Nat → Nat → (Nat → Nat) → va_W} {k0 k1 t1 a0 a1 : Nat} {cI : ClassId} (hW : okH Wh k0 k1 a0 a1 cI) (ht : tys[t1]? = some (cI, .int)) (f g x : Nat) (F : Nat → Nat) (i w : Nat) (hf1 : f < 2 ^ 31) (hi1 : i < 2 ^ 31) (hw1 : w < 2 ^ 31) : Met l yX1_field (Cond.code yX1_field cX1_field 4 (some .int) :: TB) { frames := 0, cells := 0, slots := 0, locals := 0 } (xPre Nst (dC, dI) A tys (Wh f g x F) [.ref a0, .int (nI i), .int (nI w)]) (xQi (dC, dI) A (nI (hfl f F i w)) (Wh f g x F)) 0 0 A := by
  refine x_ofWi (cc := cX1_field) (maxL := 4) (by decide) rfl (Nat.le_of_ble_eq_true rfl) ?_
  intro p e s m args below meth c Q hx hb hml hts hown hK hN hP hD hS hret ls hl
  have hl : lv_has ls 4 [(0, .ref a0), (1, .int (nI i)), (2, .int (nI w))] := hl
  have hown : s.vm.findClass RX1 = some m.cls := hown
  have f18 := hts _ (List.mem_cons_of_mem _ tw_193)
  have in_X1 := (fun q hq => List.mem_cons_of_mem _ (inX1 q hq) : ∀ q ∈ wsX10, q ∈ (Cond.code yX1_field cX1_field 4 (some .int) :: TB))
  have f9 := hts _ (List.mem_cons_of_mem _ tw_192)
  refine lv_iload_n hx hb dX1_field_0 rfl (lv_at hl 1 rfl) ?_
  refine x_if_lt (tgt := 30) hx hb dX1_field_1 (by decide) (by omega) ?_
  refine lv_iload_n hx hb dX1_field_4 rfl (lv_at hl 1 rfl) ?_
  refine lv_aload_n hx hb dX1_field_5 rfl (lv_at hl 0 rfl) ?_
  refine va_get (D := (dC, dI)) (ci := 1) (v := .int (nI f)) (C := RX1) (T := TX1) (N := 4) hx hb hts in_X1 hown hK hP k0 (hW.1 _ _ _ _) rfl 1 (by decide) f18 (fun _ h9 => h9) rfl dX1_field_6 ?_
  refine x_icmp_ge (tgt := 30) hx hb dX1_field_9 (by decide) (by omega) (by omega) (fun c9 => ?_) (fun c9 => ?_)
  · refine lv_iconst (v := nI 0) hx hb dX1_field_30 (by decide) ?_
    refine lv_istore_n (lv' := [(3, .int (nI 0)), (0, .ref a0), (1, .int (nI i)), (2, .int (nI w))]) hx hb dX1_field_31 rfl hl (by decide) rfl (fun ls hl => ?_)
    refine lv_iload_n hx hb dX1_field_32 rfl (lv_at hl 0 rfl) ?_
    refine x_if_eq (tgt := 49) hx hb dX1_field_33 (by decide) (by decide) (fun c33 => ?_) (fun c33 => absurd c33 (by decide))
    refine lv_iconst (v := nI 0) hx hb dX1_field_49 (by decide) ?_
    exact hret dX1_field_50 (by first | (have hh : i < f ∧ i < 5 ∧ w < 4 := (by omega); rw [hfl, if_pos hh]) | (have hh : ¬ (i < f ∧ i < 5 ∧ w < 4) := (by omega); rw [hfl, if_neg hh])) hP hD hS
  · refine lv_iload_n hx hb dX1_field_12 rfl (lv_at hl 1 rfl) ?_
    refine lv_iconst (v := nI 5) hx hb dX1_field_13 (by decide) ?_
    refine x_icmp_ge (tgt := 30) hx hb dX1_field_14 (by decide) (by omega) (by omega) (fun c14 => ?_) (fun c14 => ?_)
    · refine lv_iconst (v := nI 0) hx hb dX1_field_30 (by decide) ?_
      refine lv_istore_n (lv' := [(3, .int (nI 0)), (0, .ref a0), (1, .int (nI i)), (2, .int (nI w))]) hx hb dX1_field_31 rfl hl (by decide) rfl (fun ls hl => ?_)
      refine lv_iload_n hx hb dX1_field_32 rfl (lv_at hl 0 rfl) ?_
      refine x_if_eq (tgt := 49) hx hb dX1_field_33 (by decide) (by decide) (fun c33 => ?_) (fun c33 => absurd c33 (by decide))
      refine lv_iconst (v := nI 0) hx hb dX1_field_49 (by decide) ?_
      exact hret dX1_field_50 (by first | (have hh : i < f ∧ i < 5 ∧ w < 4 := (by omega); rw [hfl, if_pos hh]) | (have hh : ¬ (i < f ∧ i < 5 ∧ w < 4) := (by omega); rw [hfl, if_neg hh])) hP hD hS
    · refine lv_iload_n hx hb dX1_field_17 rfl (lv_at hl 2 rfl) ?_
      refine x_if_lt (tgt := 30) hx hb dX1_field_18 (by decide) (by omega) ?_
      refine lv_iload_n hx hb dX1_field_21 rfl (lv_at hl 2 rfl) ?_
      refine lv_iconst (v := nI 4) hx hb dX1_field_22 (by decide) ?_
      refine x_icmp_ge (tgt := 30) hx hb dX1_field_23 (by decide) (by omega) (by omega) (fun c23 => ?_) (fun c23 => ?_)
      · refine lv_iconst (v := nI 0) hx hb dX1_field_30 (by decide) ?_
        refine lv_istore_n (lv' := [(3, .int (nI 0)), (0, .ref a0), (1, .int (nI i)), (2, .int (nI w))]) hx hb dX1_field_31 rfl hl (by decide) rfl (fun ls hl => ?_)
        refine lv_iload_n hx hb dX1_field_32 rfl (lv_at hl 0 rfl) ?_
        refine x_if_eq (tgt := 49) hx hb dX1_field_33 (by decide) (by decide) (fun c33 => ?_) (fun c33 => absurd c33 (by decide))
        refine lv_iconst (v := nI 0) hx hb dX1_field_49 (by decide) ?_
        exact hret dX1_field_50 (by first | (have hh : i < f ∧ i < 5 ∧ w < 4 := (by omega); rw [hfl, if_pos hh]) | (have hh : ¬ (i < f ∧ i < 5 ∧ w < 4) := (by omega); rw [hfl, if_neg hh])) hP hD hS
      · refine lv_iconst (v := nI 1) hx hb dX1_field_26 (by decide) ?_
        refine lv_goto (tgt := 31) hx hb dX1_field_27 (by decide) ?_
        refine lv_istore_n (lv' := [(3, .int (nI 1)), (0, .ref a0), (1, .int (nI i)), (2, .int (nI w))]) hx hb dX1_field_31 rfl hl (by decide) rfl (fun ls hl => ?_)
        refine lv_iload_n hx hb dX1_field_32 rfl (lv_at hl 0 rfl) ?_
        refine x_if_eq (tgt := 49) hx hb dX1_field_33 (by decide) (by decide) (fun c33 => absurd c33 (by decide)) (fun c33 => ?_)
        refine lv_aload_n hx hb dX1_field_36 rfl (lv_at hl 1 rfl) ?_
        refine va_get (D := (dC, dI)) (ci := 1) (v := .ref a1) (C := RX1) (T := TX1) (N := 4) hx hb hts in_X1 hown hK hP k0 (hW.1 _ _ _ _) rfl 0 (by decide) f9 (fun _ h9 => h9) rfl dX1_field_37 ?_
        refine lv_iload_n hx hb dX1_field_40 rfl (lv_at hl 2 rfl) ?_
        refine lv_iconst (v := nI 4) hx hb dX1_field_41 (by decide) ?_
        refine x_imul hx hb dX1_field_42 ?_
        refine lv_iload_n hx hb dX1_field_43 rfl (lv_at hl 3 rfl) ?_
        refine x_iadd hx hb dX1_field_44 ?_
        refine x_iald hx hb hK hP k1 t1 (hW.2.1 _ _ _ _) ht (by omega) (by decide) dX1_field_45 ?_
        refine lv_goto (tgt := 50) hx hb dX1_field_46 (by decide) ?_
        exact hret dX1_field_50 (by first | (have hh : i < f ∧ i < 5 ∧ w < 4 := (by omega); rw [hfl, if_pos hh]) | (have hh : ¬ (i < f ∧ i < 5 ∧ w < 4) := (by omega); rw [hfl, if_neg hh])) hP hD hS

set_option maxHeartbeats 4000000 in
set_option maxRecDepth 100000 in
theorem c_He_append {l : Launch} {dC : Nat → ClassId} {dI : Nat → Nat → Nat} {A : Nat → Prop} {tys : List (ClassId × FieldType)} {Wh : Nat → Nat → Nat → (Nat → Nat) → va_W} {k0 k1 t1 a0 a1 : Nat} {cI : ClassId} (hW : okH Wh k0 k1 a0 a1 cI) (ht : tys[t1]? = some (cI, .int)) (f g x : Nat) (F : Nat → Nat) (z1 z2 z3 z4 : Nat) (hf1 : f < 5) : Met l yX1_append (Cond.code yX1_append cX1_append 6 none :: TB) { frames := 0, cells := 0, slots := 0, locals := 0 } (xPre Nst (dC, dI) A tys (Wh f g x F) [.ref a0, .int (nI z1), .int (nI z2), .int (nI z3), .int (nI z4)]) (xQv (dC, dI) A (Wh (f + 1) g x (hap f F z1 z2 z3 z4))) 0 0 A := by
  refine x_ofWv (cc := cX1_append) (maxL := 6) (by decide) rfl (Nat.le_of_ble_eq_true rfl) ?_
  intro p e s m args below meth c Q hx hb hml hts hown hK hN hP hD hS hret ls hl
  have hl : lv_has ls 6 [(0, .ref a0), (1, .int (nI z1)), (2, .int (nI z2)), (3, .int (nI z3)), (4, .int (nI z4))] := hl
  have hown : s.vm.findClass RX1 = some m.cls := hown
  have f18 := hts _ (List.mem_cons_of_mem _ tw_193)
  have in_X1 := (fun q hq => List.mem_cons_of_mem _ (inX1 q hq) : ∀ q ∈ wsX10, q ∈ (Cond.code yX1_append cX1_append 6 none :: TB))
  have f9 := hts _ (List.mem_cons_of_mem _ tw_192)
  refine lv_aload_n hx hb dX1_append_0 rfl (lv_at hl 0 rfl) ?_
  refine va_get (D := (dC, dI)) (ci := 1) (v := .int (nI f)) (C := RX1) (T := TX1) (N := 4) hx hb hts in_X1 hown hK hP k0 (hW.1 _ _ _ _) rfl 1 (by decide) f18 (fun _ h9 => h9) rfl dX1_append_1 ?_
  refine lv_iconst (v := nI 5) hx hb dX1_append_4 (by decide) ?_
  refine x_icmp_lt (tgt := 9) hx hb dX1_append_5 (by decide) (by omega) (by omega) (fun c5 => ?_) (fun c5 => ?_)
  · refine lv_aload_n hx hb dX1_append_9 rfl (lv_at hl 0 rfl) ?_
    refine va_get (D := (dC, dI)) (ci := 1) (v := .int (nI f)) (C := RX1) (T := TX1) (N := 4) hx hb hts in_X1 hown hK hP k0 (hW.1 _ _ _ _) rfl 1 (by decide) f18 (fun _ h9 => h9) rfl dX1_append_10 ?_
    refine lv_iconst (v := nI 4) hx hb dX1_append_13 (by decide) ?_
    refine x_imul hx hb dX1_append_14 ?_
    refine lv_istore (lv' := [(5, .int (nI (f * 4))), (0, .ref a0), (1, .int (nI z1)), (2, .int (nI z2)), (3, .int (nI z3)), (4, .int (nI z4))]) hx hb dX1_append_15 hl (by decide) rfl (fun ls hl => ?_)
    refine lv_aload_n hx hb dX1_append_17 rfl (lv_at hl 1 rfl) ?_
    refine va_get (D := (dC, dI)) (ci := 1) (v := .ref a1) (C := RX1) (T := TX1) (N := 4) hx hb hts in_X1 hown hK hP k0 (hW.1 _ _ _ _) rfl 0 (by decide) f9 (fun _ h9 => h9) rfl dX1_append_18 ?_
    refine lv_iload hx hb dX1_append_21 (lv_at hl 0 rfl) ?_
    refine lv_iconst (v := nI 0) hx hb dX1_append_23 (by decide) ?_
    refine x_iadd hx hb dX1_append_24 ?_
    refine lv_iload_n hx hb dX1_append_25 rfl (lv_at hl 2 rfl) ?_
    refine x_iast hx hb hK hP hD hS k1 t1 (hW.2.1 _ _ _ _) ht (by omega) (by decide) dX1_append_26 (fun H locs hP hD hS => ?_)
    have hP := x_wP (hW.2.2.2 _ _ _ _ (va_up F ((f * 4) + 0) z1)) hP
    have hD := x_wD (hW.2.2.2 _ _ _ _ (va_up F ((f * 4) + 0) z1)) hD
    have hP : va_P (dC, dI) vwCl (Wh f g x (va_up F ((f * 4) + 0) z1)) H := hP
    have hD : va_D A (Wh f g x (va_up F ((f * 4) + 0) z1)) := hD
    refine lv_aload_n hx hb dX1_append_27 rfl (lv_at hl 1 rfl) ?_
    refine va_get (D := (dC, dI)) (ci := 1) (v := .ref a1) (C := RX1) (T := TX1) (N := 4) hx hb hts in_X1 hown hK hP k0 (hW.1 _ _ _ _) rfl 0 (by decide) f9 (fun _ h9 => h9) rfl dX1_append_28 ?_
    refine lv_iload hx hb dX1_append_31 (lv_at hl 0 rfl) ?_
    refine lv_iconst (v := nI 1) hx hb dX1_append_33 (by decide) ?_
    refine x_iadd hx hb dX1_append_34 ?_
    refine lv_iload_n hx hb dX1_append_35 rfl (lv_at hl 3 rfl) ?_
    refine x_iast hx hb hK hP hD hS k1 t1 (hW.2.1 _ _ _ _) ht (by omega) (by decide) dX1_append_36 (fun H locs hP hD hS => ?_)
    have hP := x_wP (hW.2.2.2 _ _ _ _ (va_up (va_up F ((f * 4) + 0) z1) ((f * 4) + 1) z2)) hP
    have hD := x_wD (hW.2.2.2 _ _ _ _ (va_up (va_up F ((f * 4) + 0) z1) ((f * 4) + 1) z2)) hD
    have hP : va_P (dC, dI) vwCl (Wh f g x (va_up (va_up F ((f * 4) + 0) z1) ((f * 4) + 1) z2)) H := hP
    have hD : va_D A (Wh f g x (va_up (va_up F ((f * 4) + 0) z1) ((f * 4) + 1) z2)) := hD
    refine lv_aload_n hx hb dX1_append_37 rfl (lv_at hl 1 rfl) ?_
    refine va_get (D := (dC, dI)) (ci := 1) (v := .ref a1) (C := RX1) (T := TX1) (N := 4) hx hb hts in_X1 hown hK hP k0 (hW.1 _ _ _ _) rfl 0 (by decide) f9 (fun _ h9 => h9) rfl dX1_append_38 ?_
    refine lv_iload hx hb dX1_append_41 (lv_at hl 0 rfl) ?_
    refine lv_iconst (v := nI 2) hx hb dX1_append_43 (by decide) ?_
    refine x_iadd hx hb dX1_append_44 ?_
    refine lv_iload_n hx hb dX1_append_45 rfl (lv_at hl 4 rfl) ?_
    refine x_iast hx hb hK hP hD hS k1 t1 (hW.2.1 _ _ _ _) ht (by omega) (by decide) dX1_append_46 (fun H locs hP hD hS => ?_)
    have hP := x_wP (hW.2.2.2 _ _ _ _ (va_up (va_up (va_up F ((f * 4) + 0) z1) ((f * 4) + 1) z2) ((f * 4) + 2) z3)) hP
    have hD := x_wD (hW.2.2.2 _ _ _ _ (va_up (va_up (va_up F ((f * 4) + 0) z1) ((f * 4) + 1) z2) ((f * 4) + 2) z3)) hD
    have hP : va_P (dC, dI) vwCl (Wh f g x (va_up (va_up (va_up F ((f * 4) + 0) z1) ((f * 4) + 1) z2) ((f * 4) + 2) z3)) H := hP
    have hD : va_D A (Wh f g x (va_up (va_up (va_up F ((f * 4) + 0) z1) ((f * 4) + 1) z2) ((f * 4) + 2) z3)) := hD
    refine lv_aload_n hx hb dX1_append_47 rfl (lv_at hl 1 rfl) ?_
    refine va_get (D := (dC, dI)) (ci := 1) (v := .ref a1) (C := RX1) (T := TX1) (N := 4) hx hb hts in_X1 hown hK hP k0 (hW.1 _ _ _ _) rfl 0 (by decide) f9 (fun _ h9 => h9) rfl dX1_append_48 ?_
    refine lv_iload hx hb dX1_append_51 (lv_at hl 0 rfl) ?_
    refine lv_iconst (v := nI 3) hx hb dX1_append_53 (by decide) ?_
    refine x_iadd hx hb dX1_append_54 ?_
    refine lv_iload hx hb dX1_append_55 (lv_at hl 5 rfl) ?_
    refine x_iast hx hb hK hP hD hS k1 t1 (hW.2.1 _ _ _ _) ht (by omega) (by decide) dX1_append_57 (fun H locs hP hD hS => ?_)
    have hP := x_wP (hW.2.2.2 _ _ _ _ (va_up (va_up (va_up (va_up F ((f * 4) + 0) z1) ((f * 4) + 1) z2) ((f * 4) + 2) z3) ((f * 4) + 3) z4)) hP
    have hD := x_wD (hW.2.2.2 _ _ _ _ (va_up (va_up (va_up (va_up F ((f * 4) + 0) z1) ((f * 4) + 1) z2) ((f * 4) + 2) z3) ((f * 4) + 3) z4)) hD
    have hP : va_P (dC, dI) vwCl (Wh f g x (va_up (va_up (va_up (va_up F ((f * 4) + 0) z1) ((f * 4) + 1) z2) ((f * 4) + 2) z3) ((f * 4) + 3) z4)) H := hP
    have hD : va_D A (Wh f g x (va_up (va_up (va_up (va_up F ((f * 4) + 0) z1) ((f * 4) + 1) z2) ((f * 4) + 2) z3) ((f * 4) + 3) z4)) := hD
    refine lv_aload_n hx hb dX1_append_58 rfl (lv_at hl 1 rfl) ?_
    refine lv_dup hx hb dX1_append_59 rfl ?_
    refine va_get (D := (dC, dI)) (ci := 1) (v := .int (nI f)) (C := RX1) (T := TX1) (N := 4) hx hb hts in_X1 hown hK hP k0 (hW.1 _ _ _ _) rfl 1 (by decide) f18 (fun _ h9 => h9) rfl dX1_append_60 ?_
    refine lv_iconst (v := nI 1) hx hb dX1_append_63 (by decide) ?_
    refine x_iadd hx hb dX1_append_64 ?_
    refine va_put (D := (dC, dI)) (ci := 1) (v := .int (nI (f + 1))) (ty := .int) (C := RX1) (T := TX1) (N := 4) hx hb hts in_X1 tyX1 tyX1_ok nmX1 hown hK hP hD hS k0 (hW.1 _ _ _ _) rfl 1 (by decide) f18 (fun _ h9 => h9) rfl (by decide +kernel) rfl rfl (Nat.le_of_ble_eq_true rfl) dX1_append_65 (fun H locs hP hD hS => ?_)
    have hP := x_wP (hW.2.2.1 _ _ _ _ (f + 1) g x) hP
    have hD := x_wD (hW.2.2.1 _ _ _ _ (f + 1) g x) hD
    have hP : va_P (dC, dI) vwCl (Wh (f + 1) g x (va_up (va_up (va_up (va_up F ((f * 4) + 0) z1) ((f * 4) + 1) z2) ((f * 4) + 2) z3) ((f * 4) + 3) z4)) H := hP
    have hD : va_D A (Wh (f + 1) g x (va_up (va_up (va_up (va_up F ((f * 4) + 0) z1) ((f * 4) + 1) z2) ((f * 4) + 2) z3) ((f * 4) + 3) z4)) := hD
    have e1 : (va_up (va_up (va_up (va_up F ((f * 4) + 0) z1) ((f * 4) + 1) z2) ((f * 4) + 2) z3) ((f * 4) + 3) z4) = (hap f F z1 z2 z3 z4) := by rfl
    have h9 : Wh (f + 1) g x (va_up (va_up (va_up (va_up F ((f * 4) + 0) z1) ((f * 4) + 1) z2) ((f * 4) + 2) z3) ((f * 4) + 3) z4) = Wh (f + 1) g x (hap f F z1 z2 z3 z4) := by rw [e1]
    have hP := x_wP h9 hP
    have hD := x_wD h9 hD
    exact hret dX1_append_68 hP hD hS
  · exact absurd c5 (by omega)

set_option maxHeartbeats 4000000 in
set_option maxRecDepth 100000 in
theorem c_He_overlaps {l : Launch} {dC : Nat → ClassId} {dI : Nat → Nat → Nat} {A : Nat → Prop} {tys : List (ClassId × FieldType)} {Wh : Nat → Nat → Nat → (Nat → Nat) → va_W} {k0 k1 t1 a0 a1 : Nat} {cI : ClassId} (hW : okH Wh k0 k1 a0 a1 cI) (ht : tys[t1]? = some (cI, .int)) (f g x : Nat) (F : Nat → Nat) (hF : ∀ j, F j < 1048576) (y z : Nat) (hf1 : f ≤ 5) (hy1 : y < 1048576) (hz1 : z < 1048576) : Met l yX1_overlaps (Cond.code yX1_overlaps cX1_overlaps 4 (some .boolean) :: TB) { frames := 1, cells := 0, slots := 0, locals := 23 } (xPre Nst (dC, dI) A tys (Wh f g x F) [.ref a0, .int (nI y), .int (nI z)]) (xQi (dC, dI) A (bI (hov f F y z f 0)) (Wh f g x F)) 0 0 A := by
  refine x_ofWz (cc := cX1_overlaps) (maxL := 4) (by decide) rfl (Nat.le_of_ble_eq_true rfl) (x_narZ _) ?_
  intro p e s m args below meth c Q hx hb hml hts hown hK hN hP hD hS hret ls hl
  have hl : lv_has ls 4 [(0, .ref a0), (1, .int (nI y)), (2, .int (nI z))] := hl
  have hown : s.vm.findClass RX1 = some m.cls := hown
  have f18 := hts _ (List.mem_cons_of_mem _ tw_193)
  have in_X1 := (fun q hq => List.mem_cons_of_mem _ (inX1 q hq) : ∀ q ∈ wsX10, q ∈ (Cond.code yX1_overlaps cX1_overlaps 4 (some .boolean) :: TB))
  refine lv_iconst (v := nI 0) hx hb dX1_overlaps_0 (by decide) ?_
  refine lv_istore_n (lv' := [(3, .int (nI 0)), (0, .ref a0), (1, .int (nI y)), (2, .int (nI z))]) hx hb dX1_overlaps_1 rfl hl (by decide) rfl (fun ls hl => ?_)
  have L2 : ∀ (fu2 : Nat) (i : Nat), (f - i < fu2) → (i ≤ f) → (hov f F y z (f - i) i = hov f F y z f 0) → ∀ (H : Heap) (locs : List Loc), va_P (dC, dI) vwCl (Wh f g x F) H → va_D A (Wh f g x F) → va_S A s.heap H locs → ∀ (ls : Array Slot), lv_has ls 4 [(0, .ref a0), (1, .int (nI y)), (2, .int (nI z)), (3, .int (nI i))] → W p l e { frames := 1, cells := 0, slots := 0, locals := 23 } s m args below meth c H locs 0 0 Q (F0 m 2 ls []) := by
    intro fu2
    induction fu2 with
    | zero => intro i hm; exact absurd hm (Nat.not_lt_zero _)
    | succ fu2 ih2 =>
      intro i hm i2_0 i2_1 H locs hP hD hS ls hl
      refine lv_iload_n hx hb dX1_overlaps_2 rfl (lv_at hl 3 rfl) ?_
      refine lv_aload_n hx hb dX1_overlaps_3 rfl (lv_at hl 0 rfl) ?_
      refine va_get (D := (dC, dI)) (ci := 1) (v := .int (nI f)) (C := RX1) (T := TX1) (N := 4) hx hb hts in_X1 hown hK hP k0 (hW.1 _ _ _ _) rfl 1 (by decide) f18 (fun _ h9 => h9) rfl dX1_overlaps_4 ?_
      refine x_icmp_ge (tgt := 47) hx hb dX1_overlaps_7 (by decide) (by omega) (by omega) (fun c7 => ?_) (fun c7 => ?_)
      · refine lv_iconst (v := nI 0) hx hb dX1_overlaps_47 (by decide) ?_
        exact hret dX1_overlaps_48 (by have h := i2_1; rw [show f - i = 0 by omega, hov] at h; rw [← h]; rfl) hP hD hS
      · refine lv_iload_n hx hb dX1_overlaps_10 rfl (lv_at hl 1 rfl) ?_
        refine lv_aload_n hx hb dX1_overlaps_11 rfl (lv_at hl 0 rfl) ?_
        refine lv_iload_n hx hb dX1_overlaps_12 rfl (lv_at hl 3 rfl) ?_
        refine lv_iconst (v := nI 1) hx hb dX1_overlaps_13 (by decide) ?_
        refine x_calli (va_runV (As := [.int (nI i), .int (nI 1)]) (rest := [.int (nI y)]) ⟨hx, hb, hml, hown, hts⟩ (c_He_field hW ht f g x F i 1 (by omega) (by omega) (by omega)) (cwV 2 hts (tbV tw_385 tw_387 tw_30 tw_90 tw_388) rfl rfl rfl (by decide +kernel) ⟨Nat.le_of_ble_eq_true rfl, Nat.le_of_ble_eq_true rfl⟩) ⟨x_blind, va_recv hK hP (ci := 1) (q0 := k0) rfl (hW.1 _ _ _ _), x_pre hK hP hD hN⟩ rfl rfl hl.1 rfl (lv_room (Nat.le_of_ble_eq_true rfl)) dX1_overlaps_14 ⟨Nat.zero_le _, Nat.zero_le _⟩) hS (fun H locs hP hD hS => ?_)
        have hP : va_P (dC, dI) vwCl (Wh f g x F) H := hP
        have hD : va_D A (Wh f g x F) := hD
        have hv14 : hfl f F i 1 < 1048576 := hfl_lt hF
        refine lv_aload_n hx hb dX1_overlaps_17 rfl (lv_at hl 0 rfl) ?_
        refine lv_iload_n hx hb dX1_overlaps_18 rfl (lv_at hl 3 rfl) ?_
        refine lv_iconst (v := nI 2) hx hb dX1_overlaps_19 (by decide) ?_
        refine x_calli (va_runV (As := [.int (nI i), .int (nI 2)]) (rest := [.int (nI (hfl f F i 1)), .int (nI y)]) ⟨hx, hb, hml, hown, hts⟩ (c_He_field hW ht f g x F i 2 (by omega) (by omega) (by omega)) (cwV 2 hts (tbV tw_385 tw_387 tw_30 tw_90 tw_388) rfl rfl rfl (by decide +kernel) ⟨Nat.le_of_ble_eq_true rfl, Nat.le_of_ble_eq_true rfl⟩) ⟨x_blind, va_recv hK hP (ci := 1) (q0 := k0) rfl (hW.1 _ _ _ _), x_pre hK hP hD hN⟩ rfl rfl hl.1 rfl (lv_room (Nat.le_of_ble_eq_true rfl)) dX1_overlaps_20 ⟨Nat.zero_le _, Nat.zero_le _⟩) hS (fun H locs hP hD hS => ?_)
        have hP : va_P (dC, dI) vwCl (Wh f g x F) H := hP
        have hD : va_D A (Wh f g x F) := hD
        have hv20 : hfl f F i 2 < 1048576 := hfl_lt hF
        refine x_iadd hx hb dX1_overlaps_23 ?_
        refine x_icmp_ge (tgt := 41) hx hb dX1_overlaps_24 (by decide) (by omega) (by omega) (fun c24 => ?_) (fun c24 => ?_)
        · refine lv_iinc (v := nI (i + 1)) (lv' := [(3, .int (nI (i + 1))), (0, .ref a0), (1, .int (nI y)), (2, .int (nI z))]) hx hb dX1_overlaps_41 hl (k := 3) rfl (x_inc _) (by decide) rfl (fun ls hl => ?_)
          refine lv_goto (tgt := 2) hx hb dX1_overlaps_44 (by decide) ?_
          exact ih2 (i + 1) (by omega) (by omega) (by have h := i2_1; rw [show f - i = (f - (i + 1)) + 1 by omega, hov, if_neg (by omega)] at h; exact h) _ _ hP hD hS ls (lv_sub hl [1, 2, 3, 0] rfl)
        · refine lv_aload_n hx hb dX1_overlaps_27 rfl (lv_at hl 0 rfl) ?_
          refine lv_iload_n hx hb dX1_overlaps_28 rfl (lv_at hl 3 rfl) ?_
          refine lv_iconst (v := nI 1) hx hb dX1_overlaps_29 (by decide) ?_
          refine x_calli (va_runV (As := [.int (nI i), .int (nI 1)]) (rest := []) ⟨hx, hb, hml, hown, hts⟩ (c_He_field hW ht f g x F i 1 (by omega) (by omega) (by omega)) (cwV 2 hts (tbV tw_385 tw_387 tw_30 tw_90 tw_388) rfl rfl rfl (by decide +kernel) ⟨Nat.le_of_ble_eq_true rfl, Nat.le_of_ble_eq_true rfl⟩) ⟨x_blind, va_recv hK hP (ci := 1) (q0 := k0) rfl (hW.1 _ _ _ _), x_pre hK hP hD hN⟩ rfl rfl hl.1 rfl (lv_room (Nat.le_of_ble_eq_true rfl)) dX1_overlaps_30 ⟨Nat.zero_le _, Nat.zero_le _⟩) hS (fun H locs hP hD hS => ?_)
          have hP : va_P (dC, dI) vwCl (Wh f g x F) H := hP
          have hD : va_D A (Wh f g x F) := hD
          have hv30 : hfl f F i 1 < 1048576 := hfl_lt hF
          refine lv_iload_n hx hb dX1_overlaps_33 rfl (lv_at hl 1 rfl) ?_
          refine lv_iload_n hx hb dX1_overlaps_34 rfl (lv_at hl 2 rfl) ?_
          refine x_iadd hx hb dX1_overlaps_35 ?_
          refine x_icmp_ge (tgt := 41) hx hb dX1_overlaps_36 (by decide) (by omega) (by omega) (fun c36 => ?_) (fun c36 => ?_)
          · refine lv_iinc (v := nI (i + 1)) (lv' := [(3, .int (nI (i + 1))), (0, .ref a0), (1, .int (nI y)), (2, .int (nI z))]) hx hb dX1_overlaps_41 hl (k := 3) rfl (x_inc _) (by decide) rfl (fun ls hl => ?_)
            refine lv_goto (tgt := 2) hx hb dX1_overlaps_44 (by decide) ?_
            exact ih2 (i + 1) (by omega) (by omega) (by have h := i2_1; rw [show f - i = (f - (i + 1)) + 1 by omega, hov, if_neg (by omega)] at h; exact h) _ _ hP hD hS ls (lv_sub hl [1, 2, 3, 0] rfl)
          · refine lv_iconst (v := nI 1) hx hb dX1_overlaps_39 (by decide) ?_
            exact hret dX1_overlaps_40 (by have h := i2_1; rw [show f - i = (f - (i + 1)) + 1 by omega, hov, if_pos (by omega)] at h; rw [← h]; rfl) hP hD hS
  exact L2 (f - 0 + 1) 0 (by omega) (by omega) (by rfl) _ _ hP hD hS ls (lv_sub hl [1, 2, 3, 0] rfl)

set_option maxHeartbeats 4000000 in
set_option maxRecDepth 100000 in
theorem c_He_readFiles {l : Launch} {dC : Nat → ClassId} {dI : Nat → Nat → Nat} {A : Nat → Prop} {tys : List (ClassId × FieldType)} {Wd : (Nat → Nat) → Nat → Nat → Nat → (Nat → Nat) → va_W} {k0 k1 t1 a0 a1 : Nat} {cI : ClassId} {j0 j1 t0 b0 b1 : Nat} {cB : ClassId} {dn : Nat} (hW : ∀ dg, okH (Wd dg) k0 k1 a0 a1 cI) (hWB : ∀ f g x F, okB (fun dg => Wd dg f g x F) j0 j1 b0 b1 cB dn) (ht : tys[t1]? = some (cI, .int)) (htB : tys[t0]? = some (cB, .byte)) (hdn : dn ≤ 64) (dg : Nat → Nat) (hdg : ∀ j, dg j < 256) (f g x : Nat) (F : Nat → Nat) (hF : ∀ j, F j < 1048576) (b : Nat) (hb1 : b < 2 ^ 31) (hf0 : f = 0) : Met l yX1_readFiles (Cond.code yX1_readFiles cX1_readFiles 9 (some .boolean) :: TB) { frames := 3, cells := 0, slots := 0, locals := 70 } (xPre Nst (dC, dI) A tys (Wd dg f g x F) [.ref a0, .ref b0, .int (nI b)]) (xQi (dC, dI) A (bI (hrf dn dg b F).1) (Wd dg ((hrf dn dg b F).2.1) g x ((hrf dn dg b F).2.2))) 0 0 A := by
  refine x_ofWz (cc := cX1_readFiles) (maxL := 9) (by decide) rfl (Nat.le_of_ble_eq_true rfl) (x_narZ _) ?_
  intro p e s m args below meth c Q hx hb hml hts hown hK hN hP hD hS hret ls hl
  have hl : lv_has ls 9 [(0, .ref a0), (1, .ref b0), (2, .int (nI b))] := hl
  have hown : s.vm.findClass RX1 = some m.cls := hown
  have n42 := hN (.methodLinkNest RX1 42 yX0_value "SegmentLog") (by decide +kernel)
  have ini_X0 := hts _ (List.mem_cons_of_mem _ tw_85)
  have im_yX0_value := hts _ (List.mem_cons_of_mem _ tw_345)
  have se_yX0_value := hts _ (List.mem_cons_of_mem _ tw_25)
  have n45 := hN (.methodLinkNest RX1 45 yX0_number "SegmentLog") (by decide +kernel)
  have im_yX0_number := hts _ (List.mem_cons_of_mem _ tw_452)
  have se_yX0_number := hts _ (List.mem_cons_of_mem _ tw_42)
  have f64 := hN (.fieldLinkNest RX1 64 "SegmentLog$Blocks" "size" "I" "SegmentLog") (by decide +kernel)
  have in_X0 := (fun q hq => List.mem_cons_of_mem _ (inX0 q hq) : ∀ q ∈ wsX00, q ∈ (Cond.code yX1_readFiles cX1_readFiles 9 (some .boolean) :: TB))
  have n67 := hN (.methodLinkNest RX1 67 yX5_blocksFor "SegmentLog") (by decide +kernel)
  have ini_X5 := hts _ (List.mem_cons_of_mem _ tw_84)
  have st_yX5_blocksFor := hts _ (List.mem_cons_of_mem _ tw_374)
  refine lv_aload_n hx hb dX1_readFiles_0 rfl (lv_at hl 1 rfl) ?_
  refine lv_iload_n hx hb dX1_readFiles_1 rfl (lv_at hl 2 rfl) ?_
  refine lv_iconst (v := nI 1) hx hb dX1_readFiles_2 (by decide) ?_
  refine x_calli (va_runVN (As := [.int (nI b), .int (nI 1)]) (rest := []) ⟨hx, hb, hml, hown, hts⟩ (c_Bl_value (hWB f g x F) htB hdn dg hdg b 1 (by omega) (by omega)) ⟨(va_cnB 2 hts (tbG tw_346) rfl rfl rfl n42 ini_X0 (by decide +kernel) ⟨Nat.le_of_ble_eq_true rfl, Nat.le_of_ble_eq_true rfl⟩), im_yX0_value, se_yX0_value⟩ ⟨x_blind, va_recv hK hP (ci := 0) (q0 := j0) rfl ((hWB _ _ _ _).1 _), x_pre hK hP hD hN⟩ rfl rfl hl.1 rfl (lv_room (Nat.le_of_ble_eq_true rfl)) dX1_readFiles_3 ⟨Nat.zero_le _, Nat.zero_le _⟩) hS (fun H locs hP hD hS => ?_)
  have hP : va_P (dC, dI) vwCl (Wd dg f g x F) H := hP
  have hD : va_D A (Wd dg f g x F) := hD
  have hv3 : bv dn dg b 1 < 256 := bv_lt hdg
  refine lv_istore_n (lv' := [(3, .int (nI (bv dn dg b 1))), (0, .ref a0), (1, .ref b0), (2, .int (nI b))]) hx hb dX1_readFiles_6 rfl hl (by decide) rfl (fun ls hl => ?_)
  refine lv_iload_n hx hb dX1_readFiles_7 rfl (lv_at hl 0 rfl) ?_
  refine lv_iconst (v := nI 5) hx hb dX1_readFiles_8 (by decide) ?_
  refine x_icmp_le (tgt := 14) hx hb dX1_readFiles_9 (by decide) (by omega) (by omega) (fun c9 => ?_) (fun c9 => ?_)
  · refine lv_iconst (v := nI 0) hx hb dX1_readFiles_14 (by decide) ?_
    refine lv_istore (lv' := [(4, .int (nI 0)), (3, .int (nI (bv dn dg b 1))), (0, .ref a0), (1, .ref b0), (2, .int (nI b))]) hx hb dX1_readFiles_15 hl (by decide) rfl (fun ls hl => ?_)
    have L17 : ∀ (fu17 : Nat) (i : Nat) (f' : Nat) (F' : Nat → Nat), (bv dn dg b 1 - i < fu17) → (i ≤ bv dn dg b 1) → (f' = i) → (∀ j, F' j < 1048576) → (hrfL dn dg b (bv dn dg b 1 - i) i f' F' = hrfL dn dg b (bv dn dg b 1) 0 0 F) → ∀ (H : Heap) (locs : List Loc), va_P (dC, dI) vwCl (Wd dg f' g x F') H → va_D A (Wd dg f' g x F') → va_S A s.heap H locs → ∀ (ls : Array Slot), lv_has ls 9 [(0, .ref a0), (1, .ref b0), (2, .int (nI b)), (3, .int (nI (bv dn dg b 1))), (4, .int (nI i))] → W p l e { frames := 3, cells := 0, slots := 0, locals := 70 } s m args below meth c H locs 0 0 Q (F0 m 17 ls []) := by
      intro fu17
      induction fu17 with
      | zero => intro i f' F' hm; exact absurd hm (Nat.not_lt_zero _)
      | succ fu17 ih17 =>
        intro i f' F' hm i17_0 i17_1 i17_2 i17_3 H locs hP hD hS ls hl
        have w1 := num2_lt (n := dn) (b := b) hdg (8 + 2 * (i * 4 + 1))
        have w2 := num2_lt (n := dn) (b := b) hdg (8 + 2 * (i * 4 + 2))
        have w3 := num2_lt (n := dn) (b := b) hdg (8 + 2 * (i * 4 + 3))
        have w0 := num2_lt (n := dn) (b := b) hdg (8 + 2 * (i * 4 + 0))
        refine lv_iload hx hb dX1_readFiles_17 (lv_at hl 4 rfl) ?_
        refine lv_iload_n hx hb dX1_readFiles_19 rfl (lv_at hl 3 rfl) ?_
        refine x_icmp_ge (tgt := 156) hx hb dX1_readFiles_20 (by decide) (by omega) (by omega) (fun c20 => ?_) (fun c20 => ?_)
        · refine lv_iconst (v := nI 1) hx hb dX1_readFiles_156 (by decide) ?_
          have zz : hrf dn dg b F = (true, f', F') := by
            have h := i17_3
            rw [show bv dn dg b 1 - i = 0 by omega, hrfL] at h
            rw [hrf, if_pos (by omega), ← h]
          have e1 : f' = ((hrf dn dg b F).2.1) := by first | (rw [zz]; done) | (rw [zz]; exact hf0)
          have h9 : Wd dg f' g x F' = Wd dg ((hrf dn dg b F).2.1) g x F' := by rw [← e1]
          have hP := x_wP h9 hP
          have hD := x_wD h9 hD
          have e2 : F' = ((hrf dn dg b F).2.2) := by rw [zz]
          have h9 : Wd dg ((hrf dn dg b F).2.1) g x F' = Wd dg ((hrf dn dg b F).2.1) g x ((hrf dn dg b F).2.2) := by rw [← e2]
          have hP := x_wP h9 hP
          have hD := x_wD h9 hD
          exact hret dX1_readFiles_157 (by rw [zz]; rfl) hP hD hS
        · refine lv_aload_n hx hb dX1_readFiles_23 rfl (lv_at hl 1 rfl) ?_
          refine lv_iload_n hx hb dX1_readFiles_24 rfl (lv_at hl 2 rfl) ?_
          refine lv_iload hx hb dX1_readFiles_25 (lv_at hl 4 rfl) ?_
          refine lv_iconst (v := nI 1) hx hb dX1_readFiles_27 (by decide) ?_
          refine x_calli (va_runS (As := [.int (nI i), .int (nI 1)]) (rest := [.int (nI b), .ref b0]) ⟨hx, hb, hml, hown, hts⟩ (c_He_fieldAt i 1) (va_cwS 2 hts (tbS tw_466 tw_412 tw_90 tw_413) rfl rfl rfl (by decide +kernel) ⟨Nat.le_of_ble_eq_true rfl, Nat.le_of_ble_eq_true rfl⟩) ⟨x_blind, x_pre hK hP hD hN⟩ rfl rfl hl.1 rfl (lv_room (Nat.le_of_ble_eq_true rfl)) dX1_readFiles_28 ⟨Nat.zero_le _, Nat.zero_le _⟩) hS (fun H locs hP hD hS => ?_)
          have hP : va_P (dC, dI) vwCl (Wd dg f' g x F') H := hP
          have hD : va_D A (Wd dg f' g x F') := hD
          refine lv_iconst (v := nI 2) hx hb dX1_readFiles_31 (by decide) ?_
          refine x_calll (va_runVN (As := [.int (nI b), .int (nI (8 + 2 * (i * 4 + 1))), .int (nI 2)]) (rest := []) ⟨hx, hb, hml, hown, hts⟩ (c_Bl_number (hWB f' g x F') htB hdn dg hdg b (8 + 2 * (i * 4 + 1)) 2 (by omega) (by omega) (by omega)) ⟨(va_cnB 3 hts (tbG tw_453) rfl rfl rfl n45 ini_X0 (by decide +kernel) ⟨Nat.le_of_ble_eq_true rfl, Nat.le_of_ble_eq_true rfl⟩), im_yX0_number, se_yX0_number⟩ ⟨x_blind, va_recv hK hP (ci := 0) (q0 := j0) rfl ((hWB _ _ _ _).1 _), x_pre hK hP hD hN⟩ rfl rfl hl.1 rfl (lv_room (Nat.le_of_ble_eq_true rfl)) dX1_readFiles_32 ⟨Nat.zero_le _, Nat.zero_le _⟩) hS (fun H locs hP hD hS => ?_)
          have hP : va_P (dC, dI) vwCl (Wd dg f' g x F') H := hP
          have hD : va_D A (Wd dg f' g x F') := hD
          refine lv_l2i (v := nI (num dn dg b 2 (8 + 2 * (i * 4 + 1)))) hx hb dX1_readFiles_35 (lN_i _) ?_
          refine lv_istore (lv' := [(5, .int (nI (num dn dg b 2 (8 + 2 * (i * 4 + 1))))), (0, .ref a0), (1, .ref b0), (2, .int (nI b)), (3, .int (nI (bv dn dg b 1))), (4, .int (nI i))]) hx hb dX1_readFiles_36 hl (by decide) rfl (fun ls hl => ?_)
          refine lv_aload_n hx hb dX1_readFiles_38 rfl (lv_at hl 2 rfl) ?_
          refine lv_iload_n hx hb dX1_readFiles_39 rfl (lv_at hl 3 rfl) ?_
          refine lv_iload hx hb dX1_readFiles_40 (lv_at hl 5 rfl) ?_
          refine lv_iconst (v := nI 2) hx hb dX1_readFiles_42 (by decide) ?_
          refine x_calli (va_runS (As := [.int (nI i), .int (nI 2)]) (rest := [.int (nI b), .ref b0]) ⟨hx, hb, hml, hown, hts⟩ (c_He_fieldAt i 2) (va_cwS 2 hts (tbS tw_466 tw_412 tw_90 tw_413) rfl rfl rfl (by decide +kernel) ⟨Nat.le_of_ble_eq_true rfl, Nat.le_of_ble_eq_true rfl⟩) ⟨x_blind, x_pre hK hP hD hN⟩ rfl rfl hl.1 rfl (lv_room (Nat.le_of_ble_eq_true rfl)) dX1_readFiles_43 ⟨Nat.zero_le _, Nat.zero_le _⟩) hS (fun H locs hP hD hS => ?_)
          have hP : va_P (dC, dI) vwCl (Wd dg f' g x F') H := hP
          have hD : va_D A (Wd dg f' g x F') := hD
          refine lv_iconst (v := nI 2) hx hb dX1_readFiles_46 (by decide) ?_
          refine x_calll (va_runVN (As := [.int (nI b), .int (nI (8 + 2 * (i * 4 + 2))), .int (nI 2)]) (rest := []) ⟨hx, hb, hml, hown, hts⟩ (c_Bl_number (hWB f' g x F') htB hdn dg hdg b (8 + 2 * (i * 4 + 2)) 2 (by omega) (by omega) (by omega)) ⟨(va_cnB 3 hts (tbG tw_453) rfl rfl rfl n45 ini_X0 (by decide +kernel) ⟨Nat.le_of_ble_eq_true rfl, Nat.le_of_ble_eq_true rfl⟩), im_yX0_number, se_yX0_number⟩ ⟨x_blind, va_recv hK hP (ci := 0) (q0 := j0) rfl ((hWB _ _ _ _).1 _), x_pre hK hP hD hN⟩ rfl rfl hl.1 rfl (lv_room (Nat.le_of_ble_eq_true rfl)) dX1_readFiles_47 ⟨Nat.zero_le _, Nat.zero_le _⟩) hS (fun H locs hP hD hS => ?_)
          have hP : va_P (dC, dI) vwCl (Wd dg f' g x F') H := hP
          have hD : va_D A (Wd dg f' g x F') := hD
          refine lv_l2i (v := nI (num dn dg b 2 (8 + 2 * (i * 4 + 2)))) hx hb dX1_readFiles_50 (lN_i _) ?_
          refine lv_istore (lv' := [(6, .int (nI (num dn dg b 2 (8 + 2 * (i * 4 + 2))))), (5, .int (nI (num dn dg b 2 (8 + 2 * (i * 4 + 1))))), (0, .ref a0), (1, .ref b0), (2, .int (nI b)), (3, .int (nI (bv dn dg b 1))), (4, .int (nI i))]) hx hb dX1_readFiles_51 hl (by decide) rfl (fun ls hl => ?_)
          refine lv_aload_n hx hb dX1_readFiles_53 rfl (lv_at hl 3 rfl) ?_
          refine lv_iload_n hx hb dX1_readFiles_54 rfl (lv_at hl 4 rfl) ?_
          refine lv_iload hx hb dX1_readFiles_55 (lv_at hl 6 rfl) ?_
          refine lv_iconst (v := nI 3) hx hb dX1_readFiles_57 (by decide) ?_
          refine x_calli (va_runS (As := [.int (nI i), .int (nI 3)]) (rest := [.int (nI b), .ref b0]) ⟨hx, hb, hml, hown, hts⟩ (c_He_fieldAt i 3) (va_cwS 2 hts (tbS tw_466 tw_412 tw_90 tw_413) rfl rfl rfl (by decide +kernel) ⟨Nat.le_of_ble_eq_true rfl, Nat.le_of_ble_eq_true rfl⟩) ⟨x_blind, x_pre hK hP hD hN⟩ rfl rfl hl.1 rfl (lv_room (Nat.le_of_ble_eq_true rfl)) dX1_readFiles_58 ⟨Nat.zero_le _, Nat.zero_le _⟩) hS (fun H locs hP hD hS => ?_)
          have hP : va_P (dC, dI) vwCl (Wd dg f' g x F') H := hP
          have hD : va_D A (Wd dg f' g x F') := hD
          refine lv_iconst (v := nI 2) hx hb dX1_readFiles_61 (by decide) ?_
          refine x_calll (va_runVN (As := [.int (nI b), .int (nI (8 + 2 * (i * 4 + 3))), .int (nI 2)]) (rest := []) ⟨hx, hb, hml, hown, hts⟩ (c_Bl_number (hWB f' g x F') htB hdn dg hdg b (8 + 2 * (i * 4 + 3)) 2 (by omega) (by omega) (by omega)) ⟨(va_cnB 3 hts (tbG tw_453) rfl rfl rfl n45 ini_X0 (by decide +kernel) ⟨Nat.le_of_ble_eq_true rfl, Nat.le_of_ble_eq_true rfl⟩), im_yX0_number, se_yX0_number⟩ ⟨x_blind, va_recv hK hP (ci := 0) (q0 := j0) rfl ((hWB _ _ _ _).1 _), x_pre hK hP hD hN⟩ rfl rfl hl.1 rfl (lv_room (Nat.le_of_ble_eq_true rfl)) dX1_readFiles_62 ⟨Nat.zero_le _, Nat.zero_le _⟩) hS (fun H locs hP hD hS => ?_)
          have hP : va_P (dC, dI) vwCl (Wd dg f' g x F') H := hP
          have hD : va_D A (Wd dg f' g x F') := hD
          refine lv_l2i (v := nI (num dn dg b 2 (8 + 2 * (i * 4 + 3)))) hx hb dX1_readFiles_65 (lN_i _) ?_
          refine lv_istore (lv' := [(7, .int (nI (num dn dg b 2 (8 + 2 * (i * 4 + 3))))), (6, .int (nI (num dn dg b 2 (8 + 2 * (i * 4 + 2))))), (5, .int (nI (num dn dg b 2 (8 + 2 * (i * 4 + 1))))), (0, .ref a0), (1, .ref b0), (2, .int (nI b)), (3, .int (nI (bv dn dg b 1))), (4, .int (nI i))]) hx hb dX1_readFiles_66 hl (by decide) rfl (fun ls hl => ?_)
          refine lv_iload hx hb dX1_readFiles_68 (lv_at hl 2 rfl) ?_
          refine lv_iconst (v := nI 2) hx hb dX1_readFiles_70 (by decide) ?_
          refine x_icmp_lt (tgt := 96) hx hb dX1_readFiles_71 (by decide) (by omega) (by omega) (fun c71 => ?_) (fun c71 => ?_)
          · refine lv_iconst (v := nI 0) hx hb dX1_readFiles_96 (by decide) ?_
            refine lv_istore (lv' := [(8, .int (nI 0)), (7, .int (nI (num dn dg b 2 (8 + 2 * (i * 4 + 3))))), (6, .int (nI (num dn dg b 2 (8 + 2 * (i * 4 + 2))))), (5, .int (nI (num dn dg b 2 (8 + 2 * (i * 4 + 1))))), (0, .ref a0), (1, .ref b0), (2, .int (nI b)), (3, .int (nI (bv dn dg b 1))), (4, .int (nI i))]) hx hb dX1_readFiles_97 hl (by decide) rfl (fun ls hl => ?_)
            refine lv_iload hx hb dX1_readFiles_99 (lv_at hl 0 rfl) ?_
            refine x_if_eq (tgt := 125) hx hb dX1_readFiles_101 (by decide) (by decide) (fun c101 => ?_) (fun c101 => absurd c101 (by decide))
            refine lv_iconst (v := nI 0) hx hb dX1_readFiles_125 (by decide) ?_
            have hno : ¬ (2 ≤ num dn dg b 2 (8 + 2 * (i * 4 + 1)) ∧ 1 ≤ num dn dg b 2 (8 + 2 * (i * 4 + 2)) ∧ num dn dg b 2 (8 + 2 * (i * 4 + 1)) + num dn dg b 2 (8 + 2 * (i * 4 + 2)) ≤ dn ∧ (num dn dg b 2 (8 + 2 * (i * 4 + 3)) + 2) / 3 = num dn dg b 2 (8 + 2 * (i * 4 + 2)) ∧ hov f' F' (num dn dg b 2 (8 + 2 * (i * 4 + 1))) (num dn dg b 2 (8 + 2 * (i * 4 + 2))) f' 0 = false) := by
              rintro ⟨r1, r2, r3, r4, r5⟩
              first
              | omega
              | (rw [r5] at c122; cases c122)
            have h := i17_3
            rw [show bv dn dg b 1 - i = (bv dn dg b 1 - (i + 1)) + 1 by omega, hrfL, if_neg hno] at h
            have zz : hrf dn dg b F = (false, f', F') := by rw [hrf, if_pos (by omega), ← h]
            have e3 : f' = ((hrf dn dg b F).2.1) := by first | (rw [zz]; done) | (rw [zz]; exact hf0)
            have h9 : Wd dg f' g x F' = Wd dg ((hrf dn dg b F).2.1) g x F' := by rw [← e3]
            have hP := x_wP h9 hP
            have hD := x_wD h9 hD
            have e4 : F' = ((hrf dn dg b F).2.2) := by rw [zz]
            have h9 : Wd dg ((hrf dn dg b F).2.1) g x F' = Wd dg ((hrf dn dg b F).2.1) g x ((hrf dn dg b F).2.2) := by rw [← e4]
            have hP := x_wP h9 hP
            have hD := x_wD h9 hD
            exact hret dX1_readFiles_126 (by rw [zz]; rfl) hP hD hS
          · refine lv_iload hx hb dX1_readFiles_74 (lv_at hl 1 rfl) ?_
            refine lv_iconst (v := nI 1) hx hb dX1_readFiles_76 (by decide) ?_
            refine x_icmp_lt (tgt := 96) hx hb dX1_readFiles_77 (by decide) (by omega) (by omega) (fun c77 => ?_) (fun c77 => ?_)
            · refine lv_iconst (v := nI 0) hx hb dX1_readFiles_96 (by decide) ?_
              refine lv_istore (lv' := [(8, .int (nI 0)), (7, .int (nI (num dn dg b 2 (8 + 2 * (i * 4 + 3))))), (6, .int (nI (num dn dg b 2 (8 + 2 * (i * 4 + 2))))), (5, .int (nI (num dn dg b 2 (8 + 2 * (i * 4 + 1))))), (0, .ref a0), (1, .ref b0), (2, .int (nI b)), (3, .int (nI (bv dn dg b 1))), (4, .int (nI i))]) hx hb dX1_readFiles_97 hl (by decide) rfl (fun ls hl => ?_)
              refine lv_iload hx hb dX1_readFiles_99 (lv_at hl 0 rfl) ?_
              refine x_if_eq (tgt := 125) hx hb dX1_readFiles_101 (by decide) (by decide) (fun c101 => ?_) (fun c101 => absurd c101 (by decide))
              refine lv_iconst (v := nI 0) hx hb dX1_readFiles_125 (by decide) ?_
              have hno : ¬ (2 ≤ num dn dg b 2 (8 + 2 * (i * 4 + 1)) ∧ 1 ≤ num dn dg b 2 (8 + 2 * (i * 4 + 2)) ∧ num dn dg b 2 (8 + 2 * (i * 4 + 1)) + num dn dg b 2 (8 + 2 * (i * 4 + 2)) ≤ dn ∧ (num dn dg b 2 (8 + 2 * (i * 4 + 3)) + 2) / 3 = num dn dg b 2 (8 + 2 * (i * 4 + 2)) ∧ hov f' F' (num dn dg b 2 (8 + 2 * (i * 4 + 1))) (num dn dg b 2 (8 + 2 * (i * 4 + 2))) f' 0 = false) := by
                rintro ⟨r1, r2, r3, r4, r5⟩
                first
                | omega
                | (rw [r5] at c122; cases c122)
              have h := i17_3
              rw [show bv dn dg b 1 - i = (bv dn dg b 1 - (i + 1)) + 1 by omega, hrfL, if_neg hno] at h
              have zz : hrf dn dg b F = (false, f', F') := by rw [hrf, if_pos (by omega), ← h]
              have e5 : f' = ((hrf dn dg b F).2.1) := by first | (rw [zz]; done) | (rw [zz]; exact hf0)
              have h9 : Wd dg f' g x F' = Wd dg ((hrf dn dg b F).2.1) g x F' := by rw [← e5]
              have hP := x_wP h9 hP
              have hD := x_wD h9 hD
              have e6 : F' = ((hrf dn dg b F).2.2) := by rw [zz]
              have h9 : Wd dg ((hrf dn dg b F).2.1) g x F' = Wd dg ((hrf dn dg b F).2.1) g x ((hrf dn dg b F).2.2) := by rw [← e6]
              have hP := x_wP h9 hP
              have hD := x_wD h9 hD
              exact hret dX1_readFiles_126 (by rw [zz]; rfl) hP hD hS
            · refine lv_iload hx hb dX1_readFiles_80 (lv_at hl 2 rfl) ?_
              refine lv_iload hx hb dX1_readFiles_82 (lv_at hl 1 rfl) ?_
              refine x_iadd hx hb dX1_readFiles_84 ?_
              refine lv_aload_n hx hb dX1_readFiles_85 rfl (lv_at hl 4 rfl) ?_
              refine va_getN (D := (dC, dI)) (ci := 0) (v := .int (nI dn)) (C := RX0) (T := TX0) (N := 2) hx hb hts in_X0 hown hK hP j0 ((hWB _ _ _ _).1 _) rfl 1 (by decide) (va_Nw.use (A := args) rfl f64) (fun _ h9 => h9) rfl dX1_readFiles_86 ?_
              refine x_icmp_gt (tgt := 96) hx hb dX1_readFiles_89 (by decide) (by omega) (by omega) (fun c89 => ?_) (fun c89 => ?_)
              · refine lv_iconst (v := nI 0) hx hb dX1_readFiles_96 (by decide) ?_
                refine lv_istore (lv' := [(8, .int (nI 0)), (7, .int (nI (num dn dg b 2 (8 + 2 * (i * 4 + 3))))), (6, .int (nI (num dn dg b 2 (8 + 2 * (i * 4 + 2))))), (5, .int (nI (num dn dg b 2 (8 + 2 * (i * 4 + 1))))), (0, .ref a0), (1, .ref b0), (2, .int (nI b)), (3, .int (nI (bv dn dg b 1))), (4, .int (nI i))]) hx hb dX1_readFiles_97 hl (by decide) rfl (fun ls hl => ?_)
                refine lv_iload hx hb dX1_readFiles_99 (lv_at hl 0 rfl) ?_
                refine x_if_eq (tgt := 125) hx hb dX1_readFiles_101 (by decide) (by decide) (fun c101 => ?_) (fun c101 => absurd c101 (by decide))
                refine lv_iconst (v := nI 0) hx hb dX1_readFiles_125 (by decide) ?_
                have hno : ¬ (2 ≤ num dn dg b 2 (8 + 2 * (i * 4 + 1)) ∧ 1 ≤ num dn dg b 2 (8 + 2 * (i * 4 + 2)) ∧ num dn dg b 2 (8 + 2 * (i * 4 + 1)) + num dn dg b 2 (8 + 2 * (i * 4 + 2)) ≤ dn ∧ (num dn dg b 2 (8 + 2 * (i * 4 + 3)) + 2) / 3 = num dn dg b 2 (8 + 2 * (i * 4 + 2)) ∧ hov f' F' (num dn dg b 2 (8 + 2 * (i * 4 + 1))) (num dn dg b 2 (8 + 2 * (i * 4 + 2))) f' 0 = false) := by
                  rintro ⟨r1, r2, r3, r4, r5⟩
                  first
                  | omega
                  | (rw [r5] at c122; cases c122)
                have h := i17_3
                rw [show bv dn dg b 1 - i = (bv dn dg b 1 - (i + 1)) + 1 by omega, hrfL, if_neg hno] at h
                have zz : hrf dn dg b F = (false, f', F') := by rw [hrf, if_pos (by omega), ← h]
                have e7 : f' = ((hrf dn dg b F).2.1) := by first | (rw [zz]; done) | (rw [zz]; exact hf0)
                have h9 : Wd dg f' g x F' = Wd dg ((hrf dn dg b F).2.1) g x F' := by rw [← e7]
                have hP := x_wP h9 hP
                have hD := x_wD h9 hD
                have e8 : F' = ((hrf dn dg b F).2.2) := by rw [zz]
                have h9 : Wd dg ((hrf dn dg b F).2.1) g x F' = Wd dg ((hrf dn dg b F).2.1) g x ((hrf dn dg b F).2.2) := by rw [← e8]
                have hP := x_wP h9 hP
                have hD := x_wD h9 hD
                exact hret dX1_readFiles_126 (by rw [zz]; rfl) hP hD hS
              · refine lv_iconst (v := nI 1) hx hb dX1_readFiles_92 (by decide) ?_
                refine lv_goto (tgt := 97) hx hb dX1_readFiles_93 (by decide) ?_
                refine lv_istore (lv' := [(8, .int (nI 1)), (7, .int (nI (num dn dg b 2 (8 + 2 * (i * 4 + 3))))), (6, .int (nI (num dn dg b 2 (8 + 2 * (i * 4 + 2))))), (5, .int (nI (num dn dg b 2 (8 + 2 * (i * 4 + 1))))), (0, .ref a0), (1, .ref b0), (2, .int (nI b)), (3, .int (nI (bv dn dg b 1))), (4, .int (nI i))]) hx hb dX1_readFiles_97 hl (by decide) rfl (fun ls hl => ?_)
                refine lv_iload hx hb dX1_readFiles_99 (lv_at hl 0 rfl) ?_
                refine x_if_eq (tgt := 125) hx hb dX1_readFiles_101 (by decide) (by decide) (fun c101 => absurd c101 (by decide)) (fun c101 => ?_)
                refine lv_iload hx hb dX1_readFiles_104 (lv_at hl 1 rfl) ?_
                refine x_calli (va_runSN (As := [.int (nI (num dn dg b 2 (8 + 2 * (i * 4 + 3))))]) (rest := []) ⟨hx, hb, hml, hown, hts⟩ (c_SL_blocksFor (num dn dg b 2 (8 + 2 * (i * 4 + 3))) (by omega)) ⟨(va_cnB 1 hts (tbG tw_375) rfl rfl rfl n67 ini_X5 (by decide +kernel) ⟨Nat.le_of_ble_eq_true rfl, Nat.le_of_ble_eq_true rfl⟩), st_yX5_blocksFor, trivial⟩ ⟨x_blind, x_pre hK hP hD hN⟩ rfl rfl hl.1 rfl (lv_room (Nat.le_of_ble_eq_true rfl)) dX1_readFiles_106 ⟨Nat.zero_le _, Nat.zero_le _⟩) hS (fun H locs hP hD hS => ?_)
                have hP : va_P (dC, dI) vwCl (Wd dg f' g x F') H := hP
                have hD : va_D A (Wd dg f' g x F') := hD
                refine lv_iload hx hb dX1_readFiles_109 (lv_at hl 2 rfl) ?_
                refine x_icmp_ne (tgt := 125) hx hb dX1_readFiles_111 (by decide) (by omega) (by omega) (fun c111 => ?_) (fun c111 => ?_)
                · refine lv_iconst (v := nI 0) hx hb dX1_readFiles_125 (by decide) ?_
                  have hno : ¬ (2 ≤ num dn dg b 2 (8 + 2 * (i * 4 + 1)) ∧ 1 ≤ num dn dg b 2 (8 + 2 * (i * 4 + 2)) ∧ num dn dg b 2 (8 + 2 * (i * 4 + 1)) + num dn dg b 2 (8 + 2 * (i * 4 + 2)) ≤ dn ∧ (num dn dg b 2 (8 + 2 * (i * 4 + 3)) + 2) / 3 = num dn dg b 2 (8 + 2 * (i * 4 + 2)) ∧ hov f' F' (num dn dg b 2 (8 + 2 * (i * 4 + 1))) (num dn dg b 2 (8 + 2 * (i * 4 + 2))) f' 0 = false) := by
                    rintro ⟨r1, r2, r3, r4, r5⟩
                    first
                    | omega
                    | (rw [r5] at c122; cases c122)
                  have h := i17_3
                  rw [show bv dn dg b 1 - i = (bv dn dg b 1 - (i + 1)) + 1 by omega, hrfL, if_neg hno] at h
                  have zz : hrf dn dg b F = (false, f', F') := by rw [hrf, if_pos (by omega), ← h]
                  have e9 : f' = ((hrf dn dg b F).2.1) := by first | (rw [zz]; done) | (rw [zz]; exact hf0)
                  have h9 : Wd dg f' g x F' = Wd dg ((hrf dn dg b F).2.1) g x F' := by rw [← e9]
                  have hP := x_wP h9 hP
                  have hD := x_wD h9 hD
                  have e10 : F' = ((hrf dn dg b F).2.2) := by rw [zz]
                  have h9 : Wd dg ((hrf dn dg b F).2.1) g x F' = Wd dg ((hrf dn dg b F).2.1) g x ((hrf dn dg b F).2.2) := by rw [← e10]
                  have hP := x_wP h9 hP
                  have hD := x_wD h9 hD
                  exact hret dX1_readFiles_126 (by rw [zz]; rfl) hP hD hS
                · refine lv_aload_n hx hb dX1_readFiles_114 rfl (lv_at hl 4 rfl) ?_
                  refine lv_iload hx hb dX1_readFiles_115 (lv_at hl 3 rfl) ?_
                  refine lv_iload hx hb dX1_readFiles_117 (lv_at hl 2 rfl) ?_
                  refine x_calli (va_runV (As := [.int (nI (num dn dg b 2 (8 + 2 * (i * 4 + 1)))), .int (nI (num dn dg b 2 (8 + 2 * (i * 4 + 2))))]) (rest := []) ⟨hx, hb, hml, hown, hts⟩ (c_He_overlaps (hW dg) ht f' g x F' i17_2 (num dn dg b 2 (8 + 2 * (i * 4 + 1))) (num dn dg b 2 (8 + 2 * (i * 4 + 2))) (by omega) (by omega) (by omega)) (cwV 2 hts (tbV tw_468 tw_470 tw_44 tw_90 tw_471) rfl rfl rfl (by decide +kernel) ⟨Nat.le_of_ble_eq_true rfl, Nat.le_of_ble_eq_true rfl⟩) ⟨x_blind, va_recv hK hP (ci := 1) (q0 := k0) rfl ((hW _).1 _ _ _ _), x_pre hK hP hD hN⟩ rfl rfl hl.1 rfl (lv_room (Nat.le_of_ble_eq_true rfl)) dX1_readFiles_119 ⟨Nat.zero_le _, Nat.zero_le _⟩) hS (fun H locs hP hD hS => ?_)
                  have hP : va_P (dC, dI) vwCl (Wd dg f' g x F') H := hP
                  have hD : va_D A (Wd dg f' g x F') := hD
                  refine x_if_eq_b (tgt := 127) hx hb dX1_readFiles_122 (by decide) (fun c122 => ?_) (fun c122 => ?_)
                  · refine lv_aload_n hx hb dX1_readFiles_127 rfl (lv_at hl 4 rfl) ?_
                    refine lv_aload_n hx hb dX1_readFiles_128 rfl (lv_at hl 5 rfl) ?_
                    refine lv_iload_n hx hb dX1_readFiles_129 rfl (lv_at hl 6 rfl) ?_
                    refine lv_iload hx hb dX1_readFiles_130 (lv_at hl 8 rfl) ?_
                    refine lv_iconst (v := nI 0) hx hb dX1_readFiles_132 (by decide) ?_
                    refine x_calli (va_runS (As := [.int (nI i), .int (nI 0)]) (rest := [.int (nI b), .ref b0, .ref a0]) ⟨hx, hb, hml, hown, hts⟩ (c_He_fieldAt i 0) (va_cwS 2 hts (tbS tw_466 tw_412 tw_90 tw_413) rfl rfl rfl (by decide +kernel) ⟨Nat.le_of_ble_eq_true rfl, Nat.le_of_ble_eq_true rfl⟩) ⟨x_blind, x_pre hK hP hD hN⟩ rfl rfl hl.1 rfl (lv_room (Nat.le_of_ble_eq_true rfl)) dX1_readFiles_133 ⟨Nat.zero_le _, Nat.zero_le _⟩) hS (fun H locs hP hD hS => ?_)
                    have hP : va_P (dC, dI) vwCl (Wd dg f' g x F') H := hP
                    have hD : va_D A (Wd dg f' g x F') := hD
                    refine lv_iconst (v := nI 2) hx hb dX1_readFiles_136 (by decide) ?_
                    refine x_calll (va_runVN (As := [.int (nI b), .int (nI (8 + 2 * (i * 4 + 0))), .int (nI 2)]) (rest := [.ref a0]) ⟨hx, hb, hml, hown, hts⟩ (c_Bl_number (hWB f' g x F') htB hdn dg hdg b (8 + 2 * (i * 4 + 0)) 2 (by omega) (by omega) (by omega)) ⟨(va_cnB 3 hts (tbG tw_453) rfl rfl rfl n45 ini_X0 (by decide +kernel) ⟨Nat.le_of_ble_eq_true rfl, Nat.le_of_ble_eq_true rfl⟩), im_yX0_number, se_yX0_number⟩ ⟨x_blind, va_recv hK hP (ci := 0) (q0 := j0) rfl ((hWB _ _ _ _).1 _), x_pre hK hP hD hN⟩ rfl rfl hl.1 rfl (lv_room (Nat.le_of_ble_eq_true rfl)) dX1_readFiles_137 ⟨Nat.zero_le _, Nat.zero_le _⟩) hS (fun H locs hP hD hS => ?_)
                    have hP : va_P (dC, dI) vwCl (Wd dg f' g x F') H := hP
                    have hD : va_D A (Wd dg f' g x F') := hD
                    refine lv_l2i (v := nI (num dn dg b 2 (8 + 2 * (i * 4 + 0)))) hx hb dX1_readFiles_140 (lN_i _) ?_
                    refine lv_iload hx hb dX1_readFiles_141 (lv_at hl 3 rfl) ?_
                    refine lv_iload hx hb dX1_readFiles_143 (lv_at hl 2 rfl) ?_
                    refine lv_iload hx hb dX1_readFiles_145 (lv_at hl 1 rfl) ?_
                    refine x_callv (va_runV (As := [.int (nI (num dn dg b 2 (8 + 2 * (i * 4 + 0)))), .int (nI (num dn dg b 2 (8 + 2 * (i * 4 + 1)))), .int (nI (num dn dg b 2 (8 + 2 * (i * 4 + 2)))), .int (nI (num dn dg b 2 (8 + 2 * (i * 4 + 3))))]) (rest := []) ⟨hx, hb, hml, hown, hts⟩ (c_He_append (hW dg) ht f' g x F' (num dn dg b 2 (8 + 2 * (i * 4 + 0))) (num dn dg b 2 (8 + 2 * (i * 4 + 1))) (num dn dg b 2 (8 + 2 * (i * 4 + 2))) (num dn dg b 2 (8 + 2 * (i * 4 + 3))) (by omega)) (cwV 4 hts (tbV tw_389 tw_391 tw_31 tw_90 tw_392) rfl rfl rfl (by decide +kernel) ⟨Nat.le_of_ble_eq_true rfl, Nat.le_of_ble_eq_true rfl⟩) ⟨x_blind, va_recv hK hP (ci := 1) (q0 := k0) rfl ((hW _).1 _ _ _ _), x_pre hK hP hD hN⟩ rfl rfl hl.1 rfl (lv_room (Nat.le_of_ble_eq_true rfl)) dX1_readFiles_147 ⟨Nat.zero_le _, Nat.zero_le _⟩) hS (fun H locs hP hD hS => ?_)
                    have hP : va_P (dC, dI) vwCl (Wd dg (f' + 1) g x (hap f' F' (num dn dg b 2 (8 + 2 * (i * 4 + 0))) (num dn dg b 2 (8 + 2 * (i * 4 + 1))) (num dn dg b 2 (8 + 2 * (i * 4 + 2))) (num dn dg b 2 (8 + 2 * (i * 4 + 3))))) H := hP
                    have hD : va_D A (Wd dg (f' + 1) g x (hap f' F' (num dn dg b 2 (8 + 2 * (i * 4 + 0))) (num dn dg b 2 (8 + 2 * (i * 4 + 1))) (num dn dg b 2 (8 + 2 * (i * 4 + 2))) (num dn dg b 2 (8 + 2 * (i * 4 + 3))))) := hD
                    refine lv_iinc (v := nI (i + 1)) (lv' := [(4, .int (nI (i + 1))), (8, .int (nI 1)), (7, .int (nI (num dn dg b 2 (8 + 2 * (i * 4 + 3))))), (6, .int (nI (num dn dg b 2 (8 + 2 * (i * 4 + 2))))), (5, .int (nI (num dn dg b 2 (8 + 2 * (i * 4 + 1))))), (0, .ref a0), (1, .ref b0), (2, .int (nI b)), (3, .int (nI (bv dn dg b 1)))]) hx hb dX1_readFiles_150 hl (k := 8) rfl (x_inc _) (by decide) rfl (fun ls hl => ?_)
                    refine lv_goto (tgt := 17) hx hb dX1_readFiles_153 (by decide) ?_
                    exact ih17 (i + 1) (f' + 1) (hap f' F' (num dn dg b 2 (8 + 2 * (i * 4 + 0))) (num dn dg b 2 (8 + 2 * (i * 4 + 1))) (num dn dg b 2 (8 + 2 * (i * 4 + 2))) (num dn dg b 2 (8 + 2 * (i * 4 + 3)))) (by omega) (by omega) (by omega) (by exact hap_lt i17_2 (by omega) (by omega) (by omega) (by omega)) (by have h := i17_3; rw [show bv dn dg b 1 - i = (bv dn dg b 1 - (i + 1)) + 1 by omega, hrfL, if_pos ⟨by omega, by omega, by omega, by omega, c122⟩] at h; exact h) _ _ hP hD hS ls (lv_sub hl [5, 6, 7, 8, 0] rfl)
                  · refine lv_iconst (v := nI 0) hx hb dX1_readFiles_125 (by decide) ?_
                    have hno : ¬ (2 ≤ num dn dg b 2 (8 + 2 * (i * 4 + 1)) ∧ 1 ≤ num dn dg b 2 (8 + 2 * (i * 4 + 2)) ∧ num dn dg b 2 (8 + 2 * (i * 4 + 1)) + num dn dg b 2 (8 + 2 * (i * 4 + 2)) ≤ dn ∧ (num dn dg b 2 (8 + 2 * (i * 4 + 3)) + 2) / 3 = num dn dg b 2 (8 + 2 * (i * 4 + 2)) ∧ hov f' F' (num dn dg b 2 (8 + 2 * (i * 4 + 1))) (num dn dg b 2 (8 + 2 * (i * 4 + 2))) f' 0 = false) := by
                      rintro ⟨r1, r2, r3, r4, r5⟩
                      first
                      | omega
                      | (rw [r5] at c122; cases c122)
                    have h := i17_3
                    rw [show bv dn dg b 1 - i = (bv dn dg b 1 - (i + 1)) + 1 by omega, hrfL, if_neg hno] at h
                    have zz : hrf dn dg b F = (false, f', F') := by rw [hrf, if_pos (by omega), ← h]
                    have e11 : f' = ((hrf dn dg b F).2.1) := by first | (rw [zz]; done) | (rw [zz]; exact hf0)
                    have h9 : Wd dg f' g x F' = Wd dg ((hrf dn dg b F).2.1) g x F' := by rw [← e11]
                    have hP := x_wP h9 hP
                    have hD := x_wD h9 hD
                    have e12 : F' = ((hrf dn dg b F).2.2) := by rw [zz]
                    have h9 : Wd dg ((hrf dn dg b F).2.1) g x F' = Wd dg ((hrf dn dg b F).2.1) g x ((hrf dn dg b F).2.2) := by rw [← e12]
                    have hP := x_wP h9 hP
                    have hD := x_wD h9 hD
                    exact hret dX1_readFiles_126 (by rw [zz]; rfl) hP hD hS
    exact L17 (bv dn dg b 1 - 0 + 1) 0 f F (by omega) (by omega) (by exact hf0) (by exact hF) (by rw [hf0]; rfl) _ _ hP hD hS ls (lv_sub hl [2, 3, 4, 1, 0] rfl)
  · refine lv_iconst (v := nI 0) hx hb dX1_readFiles_12 (by decide) ?_
    have zz : hrf dn dg b F = (false, 0, F) := by rw [hrf, if_neg (by omega)]
    have e13 : f = ((hrf dn dg b F).2.1) := by first | (rw [zz]; done) | (rw [zz]; exact hf0)
    have h9 : Wd dg f g x F = Wd dg ((hrf dn dg b F).2.1) g x F := by rw [← e13]
    have hP := x_wP h9 hP
    have hD := x_wD h9 hD
    have e14 : F = ((hrf dn dg b F).2.2) := by rw [zz]
    have h9 : Wd dg ((hrf dn dg b F).2.1) g x F = Wd dg ((hrf dn dg b F).2.1) g x ((hrf dn dg b F).2.2) := by rw [← e14]
    have hP := x_wP h9 hP
    have hD := x_wD h9 hD
    exact hret dX1_readFiles_13 (by rw [zz]; rfl) hP hD hS

set_option maxHeartbeats 4000000 in
set_option maxRecDepth 100000 in
theorem c_He_read {l : Launch} {dC : Nat → ClassId} {dI : Nat → Nat → Nat} {A : Nat → Prop} {tys : List (ClassId × FieldType)} {Wd : (Nat → Nat) → Nat → Nat → Nat → (Nat → Nat) → va_W} {k0 k1 t1 a0 a1 : Nat} {cI : ClassId} {j0 j1 t0 b0 b1 : Nat} {cB : ClassId} {dn : Nat} (hW : ∀ dg, okH (Wd dg) k0 k1 a0 a1 cI) (hWB : ∀ f g x F, okB (fun dg => Wd dg f g x F) j0 j1 b0 b1 cB dn) (ht : tys[t1]? = some (cI, .int)) (htB : tys[t0]? = some (cB, .byte)) (hdn : dn ≤ 64) (dg : Nat → Nat) (hdg : ∀ j, dg j < 256) (f g x : Nat) (F : Nat → Nat) (hF : ∀ j, F j < 1048576) (b : Nat) (hb1 : b < 2) : Met l yX1_read (Cond.code yX1_read cX1_read 8 none :: TB) { frames := 4, cells := 0, slots := 0, locals := 98 } (xPre Nst (dC, dI) A tys (Wd dg f g x F) [.ref a0, .ref b0, .int (nI b)]) (xQv (dC, dI) A (Wd dg ((hrd dn dg b F).1) ((hrd dn dg b F).2.1) ((hrd dn dg b F).2.2.1) ((hrd dn dg b F).2.2.2))) 0 0 A := by
  refine x_ofWv (cc := cX1_read) (maxL := 8) (by decide) rfl (Nat.le_of_ble_eq_true rfl) ?_
  intro p e s m args below meth c Q hx hb hml hts hown hK hN hP hD hS hret ls hl
  have hl : lv_has ls 8 [(0, .ref a0), (1, .ref b0), (2, .int (nI b))] := hl
  have hown : s.vm.findClass RX1 = some m.cls := hown
  have w6 := num_lt (n := dn) (b := b) hdg 6 2
  have w8 := num_lt (n := dn) (b := b) hdg 8 48
  have w6 : num dn dg b 6 2 < 281474976710656 := w6
  have w8 : num dn dg b 8 48 < 18446744073709551616 := w8
  have n36 := hN (.methodLinkNest RX1 36 yX0_isWhole "SegmentLog") (by decide +kernel)
  have ini_X0 := hts _ (List.mem_cons_of_mem _ tw_85)
  have im_yX0_isWhole := hts _ (List.mem_cons_of_mem _ tw_448)
  have se_yX0_isWhole := hts _ (List.mem_cons_of_mem _ tw_41)
  have n42 := hN (.methodLinkNest RX1 42 yX0_value "SegmentLog") (by decide +kernel)
  have im_yX0_value := hts _ (List.mem_cons_of_mem _ tw_345)
  have se_yX0_value := hts _ (List.mem_cons_of_mem _ tw_25)
  have n45 := hN (.methodLinkNest RX1 45 yX0_number "SegmentLog") (by decide +kernel)
  have im_yX0_number := hts _ (List.mem_cons_of_mem _ tw_452)
  have se_yX0_number := hts _ (List.mem_cons_of_mem _ tw_42)
  have f22 := hts _ (List.mem_cons_of_mem _ tw_195)
  have in_X1 := (fun q hq => List.mem_cons_of_mem _ (inX1 q hq) : ∀ q ∈ wsX10, q ∈ (Cond.code yX1_read cX1_read 8 none :: TB))
  have f25 := hts _ (List.mem_cons_of_mem _ tw_197)
  refine lv_aload_n hx hb dX1_read_0 rfl (lv_at hl 0 rfl) ?_
  refine x_callv (va_runV (As := []) (rest := []) ⟨hx, hb, hml, hown, hts⟩ (c_He_clear (hW dg) ht f g x F) (cwV 0 hts (tbV tw_188 tw_190 tw_2 tw_90 tw_191) rfl rfl rfl (by decide +kernel) ⟨Nat.le_of_ble_eq_true rfl, Nat.le_of_ble_eq_true rfl⟩) ⟨x_blind, va_recv hK hP (ci := 1) (q0 := k0) rfl ((hW _).1 _ _ _ _), x_pre hK hP hD hN⟩ rfl rfl hl.1 rfl (lv_room (Nat.le_of_ble_eq_true rfl)) dX1_read_1 ⟨Nat.zero_le _, Nat.zero_le _⟩) hS (fun H locs hP hD hS => ?_)
  have hP : va_P (dC, dI) vwCl (Wd dg 0 0 1 F) H := hP
  have hD : va_D A (Wd dg 0 0 1 F) := hD
  refine lv_aload_n hx hb dX1_read_4 rfl (lv_at hl 1 rfl) ?_
  refine lv_iload_n hx hb dX1_read_5 rfl (lv_at hl 2 rfl) ?_
  refine x_calli (va_runVN (As := [.int (nI b)]) (rest := []) ⟨hx, hb, hml, hown, hts⟩ (c_Bl_isWhole (hWB 0 0 1 F) htB hdn dg hdg b (by omega)) ⟨(va_cnB 1 hts (tbG tw_449) rfl rfl rfl n36 ini_X0 (by decide +kernel) ⟨Nat.le_of_ble_eq_true rfl, Nat.le_of_ble_eq_true rfl⟩), im_yX0_isWhole, se_yX0_isWhole⟩ ⟨x_blind, va_recv hK hP (ci := 0) (q0 := j0) rfl ((hWB _ _ _ _).1 _), x_pre hK hP hD hN⟩ rfl rfl hl.1 rfl (lv_room (Nat.le_of_ble_eq_true rfl)) dX1_read_6 ⟨Nat.zero_le _, Nat.zero_le _⟩) hS (fun H locs hP hD hS => ?_)
  have hP : va_P (dC, dI) vwCl (Wd dg 0 0 1 F) H := hP
  have hD : va_D A (Wd dg 0 0 1 F) := hD
  refine x_if_eq_b (tgt := 22) hx hb dX1_read_9 (by decide) (fun c9 => ?_) (fun c9 => ?_)
  · have zz : hrd dn dg b F = (0, 0, 1, F) := by
      rw [hrd, if_neg (by first | (rw [c9]; simp; done) | exact fun q => c19 q.2)]
    have e1 : 0 = ((hrd dn dg b F).1) := by rw [zz]
    have h9 : Wd dg 0 0 1 F = Wd dg ((hrd dn dg b F).1) 0 1 F := by rw [← e1]
    have hP := x_wP h9 hP
    have hD := x_wD h9 hD
    have e2 : 0 = ((hrd dn dg b F).2.1) := by rw [zz]
    have h9 : Wd dg ((hrd dn dg b F).1) 0 1 F = Wd dg ((hrd dn dg b F).1) ((hrd dn dg b F).2.1) 1 F := by rw [← e2]
    have hP := x_wP h9 hP
    have hD := x_wD h9 hD
    have e3 : 1 = ((hrd dn dg b F).2.2.1) := by rw [zz]
    have h9 : Wd dg ((hrd dn dg b F).1) ((hrd dn dg b F).2.1) 1 F = Wd dg ((hrd dn dg b F).1) ((hrd dn dg b F).2.1) ((hrd dn dg b F).2.2.1) F := by rw [← e3]
    have hP := x_wP h9 hP
    have hD := x_wD h9 hD
    have e4 : F = ((hrd dn dg b F).2.2.2) := by rw [zz]
    have h9 : Wd dg ((hrd dn dg b F).1) ((hrd dn dg b F).2.1) ((hrd dn dg b F).2.2.1) F = Wd dg ((hrd dn dg b F).1) ((hrd dn dg b F).2.1) ((hrd dn dg b F).2.2.1) ((hrd dn dg b F).2.2.2) := by rw [← e4]
    have hP := x_wP h9 hP
    have hD := x_wD h9 hD
    exact hret dX1_read_22 hP hD hS
  · refine lv_aload_n hx hb dX1_read_12 rfl (lv_at hl 1 rfl) ?_
    refine lv_iload_n hx hb dX1_read_13 rfl (lv_at hl 2 rfl) ?_
    refine lv_iconst (v := nI 0) hx hb dX1_read_14 (by decide) ?_
    refine x_calli (va_runVN (As := [.int (nI b), .int (nI 0)]) (rest := []) ⟨hx, hb, hml, hown, hts⟩ (c_Bl_value (hWB 0 0 1 F) htB hdn dg hdg b 0 (by omega) (by omega)) ⟨(va_cnB 2 hts (tbG tw_346) rfl rfl rfl n42 ini_X0 (by decide +kernel) ⟨Nat.le_of_ble_eq_true rfl, Nat.le_of_ble_eq_true rfl⟩), im_yX0_value, se_yX0_value⟩ ⟨x_blind, va_recv hK hP (ci := 0) (q0 := j0) rfl ((hWB _ _ _ _).1 _), x_pre hK hP hD hN⟩ rfl rfl hl.1 rfl (lv_room (Nat.le_of_ble_eq_true rfl)) dX1_read_15 ⟨Nat.zero_le _, Nat.zero_le _⟩) hS (fun H locs hP hD hS => ?_)
    have hP : va_P (dC, dI) vwCl (Wd dg 0 0 1 F) H := hP
    have hD : va_D A (Wd dg 0 0 1 F) := hD
    have hv15 : bv dn dg b 0 < 256 := bv_lt hdg
    refine lv_iconst (v := nI 3) hx hb dX1_read_18 (by decide) ?_
    refine x_icmp_eq (tgt := 23) hx hb dX1_read_19 (by decide) (by omega) (by omega) (fun c19 => ?_) (fun c19 => ?_)
    · refine lv_aload_n hx hb dX1_read_23 rfl (lv_at hl 1 rfl) ?_
      refine lv_iload_n hx hb dX1_read_24 rfl (lv_at hl 2 rfl) ?_
      refine lv_iconst (v := nI 2) hx hb dX1_read_25 (by decide) ?_
      refine lv_bipush (v := nI 6) hx hb dX1_read_26 (by decide) ?_
      refine x_calll (va_runVN (As := [.int (nI b), .int (nI 2), .int (nI 6)]) (rest := []) ⟨hx, hb, hml, hown, hts⟩ (c_Bl_number (hWB 0 0 1 F) htB hdn dg hdg b 2 6 (by omega) (by omega) (by omega)) ⟨(va_cnB 3 hts (tbG tw_453) rfl rfl rfl n45 ini_X0 (by decide +kernel) ⟨Nat.le_of_ble_eq_true rfl, Nat.le_of_ble_eq_true rfl⟩), im_yX0_number, se_yX0_number⟩ ⟨x_blind, va_recv hK hP (ci := 0) (q0 := j0) rfl ((hWB _ _ _ _).1 _), x_pre hK hP hD hN⟩ rfl rfl hl.1 rfl (lv_room (Nat.le_of_ble_eq_true rfl)) dX1_read_28 ⟨Nat.zero_le _, Nat.zero_le _⟩) hS (fun H locs hP hD hS => ?_)
      have hP : va_P (dC, dI) vwCl (Wd dg 0 0 1 F) H := hP
      have hD : va_D A (Wd dg 0 0 1 F) := hD
      refine lv_lstore_n (lv' := [(3, .long (lN (num dn dg b 6 2))), (0, .ref a0), (1, .ref b0), (2, .int (nI b))]) hx hb dX1_read_31 rfl hl (by decide) rfl (fun ls hl => ?_)
      refine lv_aload_n hx hb dX1_read_32 rfl (lv_at hl 2 rfl) ?_
      refine lv_iload_n hx hb dX1_read_33 rfl (lv_at hl 3 rfl) ?_
      refine lv_bipush (v := nI 48) hx hb dX1_read_34 (by decide) ?_
      refine lv_bipush (v := nI 8) hx hb dX1_read_36 (by decide) ?_
      refine x_calll (va_runVN (As := [.int (nI b), .int (nI 48), .int (nI 8)]) (rest := []) ⟨hx, hb, hml, hown, hts⟩ (c_Bl_number (hWB 0 0 1 F) htB hdn dg hdg b 48 8 (by omega) (by omega) (by omega)) ⟨(va_cnB 3 hts (tbG tw_453) rfl rfl rfl n45 ini_X0 (by decide +kernel) ⟨Nat.le_of_ble_eq_true rfl, Nat.le_of_ble_eq_true rfl⟩), im_yX0_number, se_yX0_number⟩ ⟨x_blind, va_recv hK hP (ci := 0) (q0 := j0) rfl ((hWB _ _ _ _).1 _), x_pre hK hP hD hN⟩ rfl rfl hl.1 rfl (lv_room (Nat.le_of_ble_eq_true rfl)) dX1_read_38 ⟨Nat.zero_le _, Nat.zero_le _⟩) hS (fun H locs hP hD hS => ?_)
      have hP : va_P (dC, dI) vwCl (Wd dg 0 0 1 F) H := hP
      have hD : va_D A (Wd dg 0 0 1 F) := hD
      refine lv_lstore (lv' := [(5, .long (lN (num dn dg b 8 48))), (3, .long (lN (num dn dg b 6 2))), (0, .ref a0), (1, .ref b0), (2, .int (nI b))]) hx hb dX1_read_41 hl (by decide) rfl (fun ls hl => ?_)
      refine lv_lload_n hx hb dX1_read_43 rfl (lv_at hl 1 rfl) ?_
      refine x_calli (va_runS (As := [.long (lN (num dn dg b 6 2))]) (rest := []) ⟨hx, hb, hml, hown, hts⟩ (c_He_inRange (num dn dg b 6 2) (by omega)) (va_cwS 1 hts (tbS tw_457 tw_458 tw_90 tw_459) rfl rfl rfl (by decide +kernel) ⟨Nat.le_of_ble_eq_true rfl, Nat.le_of_ble_eq_true rfl⟩) ⟨x_blind, x_pre hK hP hD hN⟩ rfl rfl hl.1 rfl (lv_room (Nat.le_of_ble_eq_true rfl)) dX1_read_44 ⟨Nat.zero_le _, Nat.zero_le _⟩) hS (fun H locs hP hD hS => ?_)
      have hP : va_P (dC, dI) vwCl (Wd dg 0 0 1 F) H := hP
      have hD : va_D A (Wd dg 0 0 1 F) := hD
      refine x_if_eq_b (tgt := 73) hx hb dX1_read_47 (by decide) (fun c47 => ?_) (fun c47 => ?_)
      · refine lv_iconst (v := nI 0) hx hb dX1_read_73 (by decide) ?_
        refine lv_istore (lv' := [(7, .int (nI 0)), (5, .long (lN (num dn dg b 8 48))), (3, .long (lN (num dn dg b 6 2))), (0, .ref a0), (1, .ref b0), (2, .int (nI b))]) hx hb dX1_read_74 hl (by decide) rfl (fun ls hl => ?_)
        refine lv_iload hx hb dX1_read_76 (lv_at hl 0 rfl) ?_
        refine x_if_eq (tgt := 90) hx hb dX1_read_78 (by decide) (by decide) (fun c78 => ?_) (fun c78 => absurd c78 (by decide))
        refine lv_aload_n hx hb dX1_read_90 rfl (lv_at hl 3 rfl) ?_
        refine x_callv (va_runV (As := []) (rest := []) ⟨hx, hb, hml, hown, hts⟩ (c_He_clear (hW dg) ht 0 0 1 F) (cwV 0 hts (tbV tw_188 tw_190 tw_2 tw_90 tw_191) rfl rfl rfl (by decide +kernel) ⟨Nat.le_of_ble_eq_true rfl, Nat.le_of_ble_eq_true rfl⟩) ⟨x_blind, va_recv hK hP (ci := 1) (q0 := k0) rfl ((hW _).1 _ _ _ _), x_pre hK hP hD hN⟩ rfl rfl hl.1 rfl (lv_room (Nat.le_of_ble_eq_true rfl)) dX1_read_91 ⟨Nat.zero_le _, Nat.zero_le _⟩) hS (fun H locs hP hD hS => ?_)
        have hP : va_P (dC, dI) vwCl (Wd dg 0 0 1 F) H := hP
        have hD : va_D A (Wd dg 0 0 1 F) := hD
        have hk : ¬ hrk dn dg b = true := by
          intro q
          have q := of_decide_eq_true q
          first
          | exact absurd ⟨q.1, q.2.1⟩ (of_decide_eq_false c47)
          | exact absurd ⟨q.2.2.1, q.2.2.2.1⟩ (of_decide_eq_false c55)
          | exact c66 q.2.2.2.2
        have zz : hrd dn dg b F = (0, 0, 1, F) := by rw [hrd, if_pos ⟨c9, c19⟩, if_neg hk]
        have e5 : 0 = ((hrd dn dg b F).1) := by rw [zz]
        have h9 : Wd dg 0 0 1 F = Wd dg ((hrd dn dg b F).1) 0 1 F := by rw [← e5]
        have hP := x_wP h9 hP
        have hD := x_wD h9 hD
        have e6 : 0 = ((hrd dn dg b F).2.1) := by rw [zz]
        have h9 : Wd dg ((hrd dn dg b F).1) 0 1 F = Wd dg ((hrd dn dg b F).1) ((hrd dn dg b F).2.1) 1 F := by rw [← e6]
        have hP := x_wP h9 hP
        have hD := x_wD h9 hD
        have e7 : 1 = ((hrd dn dg b F).2.2.1) := by rw [zz]
        have h9 : Wd dg ((hrd dn dg b F).1) ((hrd dn dg b F).2.1) 1 F = Wd dg ((hrd dn dg b F).1) ((hrd dn dg b F).2.1) ((hrd dn dg b F).2.2.1) F := by rw [← e7]
        have hP := x_wP h9 hP
        have hD := x_wD h9 hD
        have e8 : F = ((hrd dn dg b F).2.2.2) := by rw [zz]
        have h9 : Wd dg ((hrd dn dg b F).1) ((hrd dn dg b F).2.1) ((hrd dn dg b F).2.2.1) F = Wd dg ((hrd dn dg b F).1) ((hrd dn dg b F).2.1) ((hrd dn dg b F).2.2.1) ((hrd dn dg b F).2.2.2) := by rw [← e8]
        have hP := x_wP h9 hP
        have hD := x_wD h9 hD
        exact hret dX1_read_94 hP hD hS
      · refine lv_lload hx hb dX1_read_50 (lv_at hl 0 rfl) ?_
        refine x_calli (va_runS (As := [.long (lN (num dn dg b 8 48))]) (rest := []) ⟨hx, hb, hml, hown, hts⟩ (c_He_inRange (num dn dg b 8 48) (by omega)) (va_cwS 1 hts (tbS tw_457 tw_458 tw_90 tw_459) rfl rfl rfl (by decide +kernel) ⟨Nat.le_of_ble_eq_true rfl, Nat.le_of_ble_eq_true rfl⟩) ⟨x_blind, x_pre hK hP hD hN⟩ rfl rfl hl.1 rfl (lv_room (Nat.le_of_ble_eq_true rfl)) dX1_read_52 ⟨Nat.zero_le _, Nat.zero_le _⟩) hS (fun H locs hP hD hS => ?_)
        have hP : va_P (dC, dI) vwCl (Wd dg 0 0 1 F) H := hP
        have hD : va_D A (Wd dg 0 0 1 F) := hD
        refine x_if_eq_b (tgt := 73) hx hb dX1_read_55 (by decide) (fun c55 => ?_) (fun c55 => ?_)
        · refine lv_iconst (v := nI 0) hx hb dX1_read_73 (by decide) ?_
          refine lv_istore (lv' := [(7, .int (nI 0)), (5, .long (lN (num dn dg b 8 48))), (3, .long (lN (num dn dg b 6 2))), (0, .ref a0), (1, .ref b0), (2, .int (nI b))]) hx hb dX1_read_74 hl (by decide) rfl (fun ls hl => ?_)
          refine lv_iload hx hb dX1_read_76 (lv_at hl 0 rfl) ?_
          refine x_if_eq (tgt := 90) hx hb dX1_read_78 (by decide) (by decide) (fun c78 => ?_) (fun c78 => absurd c78 (by decide))
          refine lv_aload_n hx hb dX1_read_90 rfl (lv_at hl 3 rfl) ?_
          refine x_callv (va_runV (As := []) (rest := []) ⟨hx, hb, hml, hown, hts⟩ (c_He_clear (hW dg) ht 0 0 1 F) (cwV 0 hts (tbV tw_188 tw_190 tw_2 tw_90 tw_191) rfl rfl rfl (by decide +kernel) ⟨Nat.le_of_ble_eq_true rfl, Nat.le_of_ble_eq_true rfl⟩) ⟨x_blind, va_recv hK hP (ci := 1) (q0 := k0) rfl ((hW _).1 _ _ _ _), x_pre hK hP hD hN⟩ rfl rfl hl.1 rfl (lv_room (Nat.le_of_ble_eq_true rfl)) dX1_read_91 ⟨Nat.zero_le _, Nat.zero_le _⟩) hS (fun H locs hP hD hS => ?_)
          have hP : va_P (dC, dI) vwCl (Wd dg 0 0 1 F) H := hP
          have hD : va_D A (Wd dg 0 0 1 F) := hD
          have hk : ¬ hrk dn dg b = true := by
            intro q
            have q := of_decide_eq_true q
            first
            | exact absurd ⟨q.1, q.2.1⟩ (of_decide_eq_false c47)
            | exact absurd ⟨q.2.2.1, q.2.2.2.1⟩ (of_decide_eq_false c55)
            | exact c66 q.2.2.2.2
          have zz : hrd dn dg b F = (0, 0, 1, F) := by rw [hrd, if_pos ⟨c9, c19⟩, if_neg hk]
          have e9 : 0 = ((hrd dn dg b F).1) := by rw [zz]
          have h9 : Wd dg 0 0 1 F = Wd dg ((hrd dn dg b F).1) 0 1 F := by rw [← e9]
          have hP := x_wP h9 hP
          have hD := x_wD h9 hD
          have e10 : 0 = ((hrd dn dg b F).2.1) := by rw [zz]
          have h9 : Wd dg ((hrd dn dg b F).1) 0 1 F = Wd dg ((hrd dn dg b F).1) ((hrd dn dg b F).2.1) 1 F := by rw [← e10]
          have hP := x_wP h9 hP
          have hD := x_wD h9 hD
          have e11 : 1 = ((hrd dn dg b F).2.2.1) := by rw [zz]
          have h9 : Wd dg ((hrd dn dg b F).1) ((hrd dn dg b F).2.1) 1 F = Wd dg ((hrd dn dg b F).1) ((hrd dn dg b F).2.1) ((hrd dn dg b F).2.2.1) F := by rw [← e11]
          have hP := x_wP h9 hP
          have hD := x_wD h9 hD
          have e12 : F = ((hrd dn dg b F).2.2.2) := by rw [zz]
          have h9 : Wd dg ((hrd dn dg b F).1) ((hrd dn dg b F).2.1) ((hrd dn dg b F).2.2.1) F = Wd dg ((hrd dn dg b F).1) ((hrd dn dg b F).2.1) ((hrd dn dg b F).2.2.1) ((hrd dn dg b F).2.2.2) := by rw [← e12]
          have hP := x_wP h9 hP
          have hD := x_wD h9 hD
          exact hret dX1_read_94 hP hD hS
        · refine lv_lload_n hx hb dX1_read_58 rfl (lv_at hl 1 rfl) ?_
          refine lv_ldc2 (v := lN 2) hx hb hown (hts _ (List.mem_cons_of_mem _ tw_461)) dX1_read_59 ?_
          refine lv_lrem hx hb dX1_read_62 (by decide) ?_
          refine x_topl (y := lN ((num dn dg b 6 2) % 2)) (x_lrem2 (by omega)) ?_
          refine lv_iload_n hx hb dX1_read_63 rfl (lv_at hl 4 rfl) ?_
          refine lv_i2l (v := lN b) hx hb dX1_read_64 (nI_l (by omega)) ?_
          refine W.lcmp hx hb dX1_read_65 ?_
          refine x_lif_ne (tgt := 73) hx hb dX1_read_66 (by decide) (fun c66 => ?_) (fun c66 => ?_)
          · have c66 : ¬ num dn dg b 6 2 % 2 = b := fun q => c66 (by rw [q])
            refine lv_iconst (v := nI 0) hx hb dX1_read_73 (by decide) ?_
            refine lv_istore (lv' := [(7, .int (nI 0)), (5, .long (lN (num dn dg b 8 48))), (3, .long (lN (num dn dg b 6 2))), (0, .ref a0), (1, .ref b0), (2, .int (nI b))]) hx hb dX1_read_74 hl (by decide) rfl (fun ls hl => ?_)
            refine lv_iload hx hb dX1_read_76 (lv_at hl 0 rfl) ?_
            refine x_if_eq (tgt := 90) hx hb dX1_read_78 (by decide) (by decide) (fun c78 => ?_) (fun c78 => absurd c78 (by decide))
            refine lv_aload_n hx hb dX1_read_90 rfl (lv_at hl 3 rfl) ?_
            refine x_callv (va_runV (As := []) (rest := []) ⟨hx, hb, hml, hown, hts⟩ (c_He_clear (hW dg) ht 0 0 1 F) (cwV 0 hts (tbV tw_188 tw_190 tw_2 tw_90 tw_191) rfl rfl rfl (by decide +kernel) ⟨Nat.le_of_ble_eq_true rfl, Nat.le_of_ble_eq_true rfl⟩) ⟨x_blind, va_recv hK hP (ci := 1) (q0 := k0) rfl ((hW _).1 _ _ _ _), x_pre hK hP hD hN⟩ rfl rfl hl.1 rfl (lv_room (Nat.le_of_ble_eq_true rfl)) dX1_read_91 ⟨Nat.zero_le _, Nat.zero_le _⟩) hS (fun H locs hP hD hS => ?_)
            have hP : va_P (dC, dI) vwCl (Wd dg 0 0 1 F) H := hP
            have hD : va_D A (Wd dg 0 0 1 F) := hD
            have hk : ¬ hrk dn dg b = true := by
              intro q
              have q := of_decide_eq_true q
              first
              | exact absurd ⟨q.1, q.2.1⟩ (of_decide_eq_false c47)
              | exact absurd ⟨q.2.2.1, q.2.2.2.1⟩ (of_decide_eq_false c55)
              | exact c66 q.2.2.2.2
            have zz : hrd dn dg b F = (0, 0, 1, F) := by rw [hrd, if_pos ⟨c9, c19⟩, if_neg hk]
            have e13 : 0 = ((hrd dn dg b F).1) := by rw [zz]
            have h9 : Wd dg 0 0 1 F = Wd dg ((hrd dn dg b F).1) 0 1 F := by rw [← e13]
            have hP := x_wP h9 hP
            have hD := x_wD h9 hD
            have e14 : 0 = ((hrd dn dg b F).2.1) := by rw [zz]
            have h9 : Wd dg ((hrd dn dg b F).1) 0 1 F = Wd dg ((hrd dn dg b F).1) ((hrd dn dg b F).2.1) 1 F := by rw [← e14]
            have hP := x_wP h9 hP
            have hD := x_wD h9 hD
            have e15 : 1 = ((hrd dn dg b F).2.2.1) := by rw [zz]
            have h9 : Wd dg ((hrd dn dg b F).1) ((hrd dn dg b F).2.1) 1 F = Wd dg ((hrd dn dg b F).1) ((hrd dn dg b F).2.1) ((hrd dn dg b F).2.2.1) F := by rw [← e15]
            have hP := x_wP h9 hP
            have hD := x_wD h9 hD
            have e16 : F = ((hrd dn dg b F).2.2.2) := by rw [zz]
            have h9 : Wd dg ((hrd dn dg b F).1) ((hrd dn dg b F).2.1) ((hrd dn dg b F).2.2.1) F = Wd dg ((hrd dn dg b F).1) ((hrd dn dg b F).2.1) ((hrd dn dg b F).2.2.1) ((hrd dn dg b F).2.2.2) := by rw [← e16]
            have hP := x_wP h9 hP
            have hD := x_wD h9 hD
            exact hret dX1_read_94 hP hD hS
          · have c66 : num dn dg b 6 2 % 2 = b := lN_inj (by omega) (by omega) c66
            refine lv_iconst (v := nI 1) hx hb dX1_read_69 (by decide) ?_
            refine lv_goto (tgt := 74) hx hb dX1_read_70 (by decide) ?_
            refine lv_istore (lv' := [(7, .int (nI 1)), (5, .long (lN (num dn dg b 8 48))), (3, .long (lN (num dn dg b 6 2))), (0, .ref a0), (1, .ref b0), (2, .int (nI b))]) hx hb dX1_read_74 hl (by decide) rfl (fun ls hl => ?_)
            refine lv_iload hx hb dX1_read_76 (lv_at hl 0 rfl) ?_
            refine x_if_eq (tgt := 90) hx hb dX1_read_78 (by decide) (by decide) (fun c78 => absurd c78 (by decide)) (fun c78 => ?_)
            refine lv_aload_n hx hb dX1_read_81 rfl (lv_at hl 3 rfl) ?_
            refine lv_aload_n hx hb dX1_read_82 rfl (lv_at hl 4 rfl) ?_
            refine lv_iload_n hx hb dX1_read_83 rfl (lv_at hl 5 rfl) ?_
            refine x_calli (va_runV (As := [.ref b0, .int (nI b)]) (rest := []) ⟨hx, hb, hml, hown, hts⟩ (c_He_readFiles hW hWB ht htB hdn dg hdg 0 0 1 F hF b (by omega) (by omega)) (cwV 2 hts (tbV tw_462 tw_464 tw_43 tw_90 tw_465) rfl rfl rfl (by decide +kernel) ⟨Nat.le_of_ble_eq_true rfl, Nat.le_of_ble_eq_true rfl⟩) ⟨x_blind, va_recv hK hP (ci := 1) (q0 := k0) rfl ((hW _).1 _ _ _ _), x_pre hK hP hD hN⟩ rfl rfl hl.1 rfl (lv_room (Nat.le_of_ble_eq_true rfl)) dX1_read_84 ⟨Nat.zero_le _, Nat.zero_le _⟩) hS (fun H locs hP hD hS => ?_)
            have hP : va_P (dC, dI) vwCl (Wd dg ((hrf dn dg b F).2.1) 0 1 ((hrf dn dg b F).2.2)) H := hP
            have hD : va_D A (Wd dg ((hrf dn dg b F).2.1) 0 1 ((hrf dn dg b F).2.2)) := hD
            refine x_if_ne_b (tgt := 95) hx hb dX1_read_87 (by decide) (fun c87 => ?_) (fun c87 => ?_)
            · refine lv_aload_n hx hb dX1_read_95 rfl (lv_at hl 3 rfl) ?_
              refine lv_lload_n hx hb dX1_read_96 rfl (lv_at hl 2 rfl) ?_
              refine lv_l2i (v := nI (num dn dg b 6 2)) hx hb dX1_read_97 (lN_i _) ?_
              refine va_put (D := (dC, dI)) (ci := 1) (v := .int (nI (num dn dg b 6 2))) (ty := .int) (C := RX1) (T := TX1) (N := 4) hx hb hts in_X1 tyX1 tyX1_ok nmX1 hown hK hP hD hS k0 ((hW _).1 _ _ _ _) rfl 2 (by decide) f22 (fun _ h9 => h9) rfl (by decide +kernel) rfl rfl (Nat.le_of_ble_eq_true rfl) dX1_read_98 (fun H locs hP hD hS => ?_)
              have hP := x_wP ((hW _).2.2.1 _ _ _ _ ((hrf dn dg b F).2.1) (num dn dg b 6 2) 1) hP
              have hD := x_wD ((hW _).2.2.1 _ _ _ _ ((hrf dn dg b F).2.1) (num dn dg b 6 2) 1) hD
              have hP : va_P (dC, dI) vwCl (Wd dg ((hrf dn dg b F).2.1) (num dn dg b 6 2) 1 ((hrf dn dg b F).2.2)) H := hP
              have hD : va_D A (Wd dg ((hrf dn dg b F).2.1) (num dn dg b 6 2) 1 ((hrf dn dg b F).2.2)) := hD
              refine lv_aload_n hx hb dX1_read_101 rfl (lv_at hl 3 rfl) ?_
              refine lv_lload hx hb dX1_read_102 (lv_at hl 1 rfl) ?_
              refine lv_l2i (v := nI (num dn dg b 8 48)) hx hb dX1_read_104 (lN_i _) ?_
              refine va_put (D := (dC, dI)) (ci := 1) (v := .int (nI (num dn dg b 8 48))) (ty := .int) (C := RX1) (T := TX1) (N := 4) hx hb hts in_X1 tyX1 tyX1_ok nmX1 hown hK hP hD hS k0 ((hW _).1 _ _ _ _) rfl 3 (by decide) f25 (fun _ h9 => h9) rfl (by decide +kernel) rfl rfl (Nat.le_of_ble_eq_true rfl) dX1_read_105 (fun H locs hP hD hS => ?_)
              have hP := x_wP ((hW _).2.2.1 _ _ _ _ ((hrf dn dg b F).2.1) (num dn dg b 6 2) (num dn dg b 8 48)) hP
              have hD := x_wD ((hW _).2.2.1 _ _ _ _ ((hrf dn dg b F).2.1) (num dn dg b 6 2) (num dn dg b 8 48)) hD
              have hP : va_P (dC, dI) vwCl (Wd dg ((hrf dn dg b F).2.1) (num dn dg b 6 2) (num dn dg b 8 48) ((hrf dn dg b F).2.2)) H := hP
              have hD : va_D A (Wd dg ((hrf dn dg b F).2.1) (num dn dg b 6 2) (num dn dg b 8 48) ((hrf dn dg b F).2.2)) := hD
              have hk : hrk dn dg b = true := decide_eq_true ⟨(of_decide_eq_true c47).1, (of_decide_eq_true c47).2, (of_decide_eq_true c55).1, (of_decide_eq_true c55).2, c66⟩
              have zz : hrd dn dg b F = ((hrf dn dg b F).2.1, num dn dg b 6 2, num dn dg b 8 48, (hrf dn dg b F).2.2) := by rw [hrd, if_pos ⟨c9, c19⟩, if_pos hk, if_pos c87]
              have e17 : ((hrf dn dg b F).2.1) = ((hrd dn dg b F).1) := by rw [zz]
              have h9 : Wd dg ((hrf dn dg b F).2.1) (num dn dg b 6 2) (num dn dg b 8 48) ((hrf dn dg b F).2.2) = Wd dg ((hrd dn dg b F).1) (num dn dg b 6 2) (num dn dg b 8 48) ((hrf dn dg b F).2.2) := by rw [e17]
              have hP := x_wP h9 hP
              have hD := x_wD h9 hD
              have e18 : (num dn dg b 6 2) = ((hrd dn dg b F).2.1) := by rw [zz]
              have h9 : Wd dg ((hrd dn dg b F).1) (num dn dg b 6 2) (num dn dg b 8 48) ((hrf dn dg b F).2.2) = Wd dg ((hrd dn dg b F).1) ((hrd dn dg b F).2.1) (num dn dg b 8 48) ((hrf dn dg b F).2.2) := by rw [← e18]
              have hP := x_wP h9 hP
              have hD := x_wD h9 hD
              have e19 : (num dn dg b 8 48) = ((hrd dn dg b F).2.2.1) := by rw [zz]
              have h9 : Wd dg ((hrd dn dg b F).1) ((hrd dn dg b F).2.1) (num dn dg b 8 48) ((hrf dn dg b F).2.2) = Wd dg ((hrd dn dg b F).1) ((hrd dn dg b F).2.1) ((hrd dn dg b F).2.2.1) ((hrf dn dg b F).2.2) := by rw [← e19]
              have hP := x_wP h9 hP
              have hD := x_wD h9 hD
              have e20 : ((hrf dn dg b F).2.2) = ((hrd dn dg b F).2.2.2) := by rw [zz]
              have h9 : Wd dg ((hrd dn dg b F).1) ((hrd dn dg b F).2.1) ((hrd dn dg b F).2.2.1) ((hrf dn dg b F).2.2) = Wd dg ((hrd dn dg b F).1) ((hrd dn dg b F).2.1) ((hrd dn dg b F).2.2.1) ((hrd dn dg b F).2.2.2) := by rw [← e20]
              have hP := x_wP h9 hP
              have hD := x_wD h9 hD
              exact hret dX1_read_108 hP hD hS
            · refine lv_aload_n hx hb dX1_read_90 rfl (lv_at hl 3 rfl) ?_
              refine x_callv (va_runV (As := []) (rest := []) ⟨hx, hb, hml, hown, hts⟩ (c_He_clear (hW dg) ht ((hrf dn dg b F).2.1) 0 1 ((hrf dn dg b F).2.2)) (cwV 0 hts (tbV tw_188 tw_190 tw_2 tw_90 tw_191) rfl rfl rfl (by decide +kernel) ⟨Nat.le_of_ble_eq_true rfl, Nat.le_of_ble_eq_true rfl⟩) ⟨x_blind, va_recv hK hP (ci := 1) (q0 := k0) rfl ((hW _).1 _ _ _ _), x_pre hK hP hD hN⟩ rfl rfl hl.1 rfl (lv_room (Nat.le_of_ble_eq_true rfl)) dX1_read_91 ⟨Nat.zero_le _, Nat.zero_le _⟩) hS (fun H locs hP hD hS => ?_)
              have hP : va_P (dC, dI) vwCl (Wd dg 0 0 1 ((hrf dn dg b F).2.2)) H := hP
              have hD : va_D A (Wd dg 0 0 1 ((hrf dn dg b F).2.2)) := hD
              have hk : hrk dn dg b = true := decide_eq_true ⟨(of_decide_eq_true c47).1, (of_decide_eq_true c47).2, (of_decide_eq_true c55).1, (of_decide_eq_true c55).2, c66⟩
              have zz : hrd dn dg b F = (0, 0, 1, (hrf dn dg b F).2.2) := by rw [hrd, if_pos ⟨c9, c19⟩, if_pos hk, if_neg (by rw [c87]; decide)]
              have e21 : 0 = ((hrd dn dg b F).1) := by rw [zz]
              have h9 : Wd dg 0 0 1 ((hrf dn dg b F).2.2) = Wd dg ((hrd dn dg b F).1) 0 1 ((hrf dn dg b F).2.2) := by rw [← e21]
              have hP := x_wP h9 hP
              have hD := x_wD h9 hD
              have e22 : 0 = ((hrd dn dg b F).2.1) := by rw [zz]
              have h9 : Wd dg ((hrd dn dg b F).1) 0 1 ((hrf dn dg b F).2.2) = Wd dg ((hrd dn dg b F).1) ((hrd dn dg b F).2.1) 1 ((hrf dn dg b F).2.2) := by rw [← e22]
              have hP := x_wP h9 hP
              have hD := x_wD h9 hD
              have e23 : 1 = ((hrd dn dg b F).2.2.1) := by rw [zz]
              have h9 : Wd dg ((hrd dn dg b F).1) ((hrd dn dg b F).2.1) 1 ((hrf dn dg b F).2.2) = Wd dg ((hrd dn dg b F).1) ((hrd dn dg b F).2.1) ((hrd dn dg b F).2.2.1) ((hrf dn dg b F).2.2) := by rw [← e23]
              have hP := x_wP h9 hP
              have hD := x_wD h9 hD
              have e24 : ((hrf dn dg b F).2.2) = ((hrd dn dg b F).2.2.2) := by rw [zz]
              have h9 : Wd dg ((hrd dn dg b F).1) ((hrd dn dg b F).2.1) ((hrd dn dg b F).2.2.1) ((hrf dn dg b F).2.2) = Wd dg ((hrd dn dg b F).1) ((hrd dn dg b F).2.1) ((hrd dn dg b F).2.2.1) ((hrd dn dg b F).2.2.2) := by rw [← e24]
              have hP := x_wP h9 hP
              have hD := x_wD h9 hD
              exact hret dX1_read_94 hP hD hS
    · have zz : hrd dn dg b F = (0, 0, 1, F) := by
        rw [hrd, if_neg (by first | (rw [c9]; simp; done) | exact fun q => c19 q.2)]
      have e25 : 0 = ((hrd dn dg b F).1) := by rw [zz]
      have h9 : Wd dg 0 0 1 F = Wd dg ((hrd dn dg b F).1) 0 1 F := by rw [← e25]
      have hP := x_wP h9 hP
      have hD := x_wD h9 hD
      have e26 : 0 = ((hrd dn dg b F).2.1) := by rw [zz]
      have h9 : Wd dg ((hrd dn dg b F).1) 0 1 F = Wd dg ((hrd dn dg b F).1) ((hrd dn dg b F).2.1) 1 F := by rw [← e26]
      have hP := x_wP h9 hP
      have hD := x_wD h9 hD
      have e27 : 1 = ((hrd dn dg b F).2.2.1) := by rw [zz]
      have h9 : Wd dg ((hrd dn dg b F).1) ((hrd dn dg b F).2.1) 1 F = Wd dg ((hrd dn dg b F).1) ((hrd dn dg b F).2.1) ((hrd dn dg b F).2.2.1) F := by rw [← e27]
      have hP := x_wP h9 hP
      have hD := x_wD h9 hD
      have e28 : F = ((hrd dn dg b F).2.2.2) := by rw [zz]
      have h9 : Wd dg ((hrd dn dg b F).1) ((hrd dn dg b F).2.1) ((hrd dn dg b F).2.2.1) F = Wd dg ((hrd dn dg b F).1) ((hrd dn dg b F).2.1) ((hrd dn dg b F).2.2.1) ((hrd dn dg b F).2.2.2) := by rw [← e28]
      have hP := x_wP h9 hP
      have hD := x_wD h9 hD
      exact hret dX1_read_22 hP hD hS
end
section

def haS (ef : Nat) (eF : Nat → Nat) (i : Nat) (Z : Nat × (Nat → Nat)) : Nat × (Nat → Nat) := (Z.1 + 1, hap Z.1 Z.2 (hfl ef eF i 0) (hfl ef eF i 1) (hfl ef eF i 2) (hfl ef eF i 3))
def hal (ef : Nat) (eF : Nat → Nat) : Nat → Nat → Nat × (Nat → Nat) → Nat × (Nat → Nat)
  | 0, _, Z => Z
  | k + 1, i, Z => hal ef eF k (i + 1) (haS ef eF i Z)
theorem hal_lt {ef : Nat} {eF : Nat → Nat} (he : ∀ j, eF j < 1048576) : ∀ {k i : Nat} {Z : Nat × (Nat → Nat)} (_ : ∀ j, Z.2 j < 1048576), ∀ j, (hal ef eF k i Z).2 j < 1048576
  | 0, _, _, h => h
  | k + 1, i, _, h => hal_lt he (k := k) (i := i + 1) (hap_lt h (hfl_lt he) (hfl_lt he) (hfl_lt he) (hfl_lt he))
theorem hrd_lt {dn : Nat} {dg : Nat → Nat} {b : Nat} {F : Nat → Nat} (hg : ∀ j, dg j < 256) (hF : ∀ j, F j < 1048576) : ∀ j, (hrd dn dg b F).2.2.2 j < 1048576 := by
  unfold hrd
  split
  · split
    · split
      · exact hrf_lt hg hF
      · exact hrf_lt hg hF
    · exact hF
  · exact hF
theorem hrd_b {dn : Nat} {dg : Nat → Nat} {b : Nat} (_ : ∀ j, dg j < 256) (F : Nat → Nat) : (hrd dn dg b F).2.1 ≤ 1000000000 ∧ (hrd dn dg b F).2.2.1 ≤ 1000000000 := by
  unfold hrd
  split
  · split
    · rename_i h
      have h := of_decide_eq_true h
      split
      · exact ⟨h.2.1, h.2.2.2.1⟩
      · exact ⟨Nat.zero_le _, Nat.le_of_ble_eq_true rfl⟩
    · exact ⟨Nat.zero_le _, Nat.le_of_ble_eq_true rfl⟩
  · exact ⟨Nat.zero_le _, Nat.le_of_ble_eq_true rfl⟩

def qlg (s f : Nat) (tk tv : Nat → Int64) (ts : Nat → Nat) (tn : Nat) : Nat → Nat → (Nat → Nat) → Nat → Nat
  | 0, _, g => g
  | k + 1, i, g => qlg s f tk tv ts tn k (i + 1) (qrec s i (tk ((twi ts (f + i) tn 0).getD 0)) (tv ((twi ts (f + i) tn 0).getD 0)) g)
theorem qlg_lt {s f : Nat} {tk tv : Nat → Int64} {ts : Nat → Nat} {tn : Nat} : ∀ {k i : Nat} {g : Nat → Nat} (_ : ∀ j, g j < 256), ∀ j, qlg s f tk tv ts tn k i g j < 256
  | 0, _, _, h => h
  | k + 1, i, _, h => qlg_lt (k := k) (i := i + 1) (qrec_lt h)
/-- the image of a log block: s its slot, f its first sequence, w how many, b its block -/
def qlG (s f w : Nat) (tk tv : Nat → Int64) (ts : Nat → Nat) (tn b : Nat) (t g : Nat → Nat) : Nat → Nat := qsl s (va_up t s b) (qlg s f tk tv ts tn w 0 (pnum 64 s 6 (qap s g 1 w) 2 f))
theorem qlG_lt {s f w : Nat} {tk tv : Nat → Int64} {ts : Nat → Nat} {tn b : Nat} {t g : Nat → Nat} (h : ∀ j, g j < 256) : ∀ j, qlG s f w tk tv ts tn b t g j < 256 := qsl_lt (qlg_lt (pnum_lt (qap_lt h)))
theorem twi_lt {t : Nat → Nat} {x : Nat} : ∀ {k i c : Nat}, twi t x k i = some c → i ≤ c ∧ c < i + k
  | 0, _, _, h => by cases h
  | k + 1, i, c, h => by
    rw [twi] at h
    split at h
    · cases h; omega
    · have := twi_lt h
      omega
theorem hal_1 (ef : Nat) (eF : Nat → Nat) : ∀ (k i : Nat) (Z : Nat × (Nat → Nat)), (hal ef eF k i Z).1 = Z.1 + k
  | 0, _, _ => rfl
  | k + 1, i, Z => by
    rw [hal, hal_1 ef eF k (i + 1)]
    show Z.1 + 1 + k = Z.1 + (k + 1)
    omega
def plh (mg : Bool) (ef : Nat) (eF pF : Nat → Nat) (lf y1 y2 y3 : Nat) : Nat × (Nat → Nat) := if mg = true then (0 + 1, hap 0 pF (lf + 1) y1 y2 y3) else ((hal ef eF ef 0 (0, pF)).1 + 1, hap (hal ef eF ef 0 (0, pF)).1 (hal ef eF ef 0 (0, pF)).2 (lf + 1) y1 y2 y3)
theorem plh_lt {mg : Bool} {ef : Nat} {eF pF : Nat → Nat} {lf y1 y2 y3 : Nat} (he : ∀ j, eF j < 1048576) (hp : ∀ j, pF j < 1048576) (h0 : lf + 1 < 1048576) (h1 : y1 < 1048576) (h2 : y2 < 1048576) (h3 : y3 < 1048576) : ∀ j, (plh mg ef eF pF lf y1 y2 y3).2 j < 1048576 := by
  unfold plh
  split
  · exact hap_lt hp h0 h1 h2 h3
  · exact hap_lt (hal_lt he hp) h0 h1 h2 h3
abbrev QS : Type := Nat × (Nat → Nat) × (Nat → Nat)
def qfS (nb rc fi nu j : Nat) (Z : QS) : QS := (Z.1 + 1, va_up Z.2.1 Z.1 (fi + j), pnum 64 Z.1 2 (pnum 64 Z.1 2 (pnum 64 Z.1 2 (qap Z.1 Z.2.2 2 (min 3 (rc - j * 3))) 2 nu) 4 j) 6 nb)
def qf1 (nb rc fi nu : Nat) : Nat → Nat → QS → QS
  | 0, _, Z => Z
  | k + 1, j, Z => qf1 nb rc fi nu k (j + 1) (qfS nb rc fi nu j Z)
theorem qf1_g {nb rc fi nu : Nat} : ∀ {k j : Nat} {Z : QS} (_ : ∀ q, Z.2.2 q < 256), ∀ q, (qf1 nb rc fi nu k j Z).2.2 q < 256
  | 0, _, _, h => h
  | k + 1, j, _, h => qf1_g (k := k) (j := j + 1) (pnum_lt (pnum_lt (pnum_lt (qap_lt h))))
theorem qf1_t {nb rc fi nu : Nat} : ∀ {k j : Nat} {Z : QS} (_ : fi + j + k ≤ 64) (_ : ∀ q, Z.2.1 q < 64), ∀ q, (qf1 nb rc fi nu k j Z).2.1 q < 64
  | 0, _, _, _, h => h
  | k + 1, j, _, hk, h => qf1_t (k := k) (j := j + 1) (by omega) (va_up_lt h (by omega))
theorem qf1_n {nb rc fi nu : Nat} : ∀ {k j : Nat} {Z : QS}, (qf1 nb rc fi nu k j Z).1 = Z.1 + k
  | 0, _, _ => rfl
  | k + 1, j, Z => by
    rw [qf1, qf1_n (k := k)]
    show Z.1 + 1 + k = Z.1 + (k + 1)
    omega
def qf2 (mg : Bool) (fs : Nat) (tk tv : Nat → Int64) (ts : Nat → Nat) : Nat → Nat → Nat → (Nat → Nat) → Nat → Nat
  | 0, _, _, g => g
  | k + 1, i, d, g => if mg = true ∨ ¬ ts i = 0 then qf2 mg fs tk tv ts k (i + 1) (d + 1) (qrec (fs + d / 3) (d % 3) (tk i) (tv i) g) else qf2 mg fs tk tv ts k (i + 1) d g
theorem qf2_lt {mg : Bool} {fs : Nat} {tk tv : Nat → Int64} {ts : Nat → Nat} : ∀ {k i d : Nat} {g : Nat → Nat} (_ : ∀ q, g q < 256), ∀ q, qf2 mg fs tk tv ts k i d g q < 256
  | 0, _, _, _, h => h
  | k + 1, i, d, g, h => by
    rw [qf2]
    split
    · exact qf2_lt (qrec_lt h)
    · exact qf2_lt h
def qf3 (fs : Nat) (t : Nat → Nat) : Nat → Nat → (Nat → Nat) → Nat → Nat
  | 0, _, g => g
  | k + 1, j, g => qf3 fs t k (j + 1) (qsl (fs + j) t g)
theorem qf3_lt {fs : Nat} {t : Nat → Nat} : ∀ {k j : Nat} {g : Nat → Nat} (_ : ∀ q, g q < 256), ∀ q, qf3 fs t k j g q < 256
  | 0, _, _, h => h
  | k + 1, j, _, h => qf3_lt (k := k) (j := j + 1) (qsl_lt h)
def qh2 (s pf : Nat) (pF : Nat → Nat) (i : Nat) : Nat → Nat → (Nat → Nat) → Nat → Nat
  | 0, _, g => g
  | k + 1, w, g => qh2 s pf pF i k (w + 1) (pnum 64 s 2 g (8 + 2 * (i * 4 + w)) (hfl pf pF i w))
def qh1 (s pf : Nat) (pF : Nat → Nat) : Nat → Nat → (Nat → Nat) → Nat → Nat
  | 0, _, g => g
  | k + 1, i, g => qh1 s pf pF k (i + 1) (qh2 s pf pF i 4 0 g)
theorem qh2_lt {s pf : Nat} {pF : Nat → Nat} {i : Nat} : ∀ {k w : Nat} {g : Nat → Nat} (_ : ∀ q, g q < 256), ∀ q, qh2 s pf pF i k w g q < 256
  | 0, _, _, h => h
  | k + 1, w, _, h => qh2_lt (k := k) (w := w + 1) (pnum_lt h)
theorem qh1_lt {s pf : Nat} {pF : Nat → Nat} : ∀ {k i : Nat} {g : Nat → Nat} (_ : ∀ q, g q < 256), ∀ q, qh1 s pf pF k i g q < 256
  | 0, _, _, h => h
  | k + 1, i, _, h => qh1_lt (k := k) (i := i + 1) (qh2_lt h)
/-- the image of a head -/
def qhG (s pf pg px : Nat) (pF t g : Nat → Nat) : Nat → Nat := qsl s (va_up t s (pg % 2)) (pnum 64 s 8 (qh1 s pf pF pf 0 (pnum 64 s 6 (qap s g 3 pf) 2 pg)) 48 px)
theorem qhG_lt {s pf pg px : Nat} {pF t g : Nat → Nat} (h : ∀ j, g j < 256) : ∀ j, qhG s pf pg px pF t g j < 256 := qsl_lt (pnum_lt (qh1_lt (pnum_lt (qap_lt h))))
def tkU (mg : Bool) (un : Nat) (u : Nat → Nat) : Nat → Nat := if mg = true then utn 2 0 un (utn 1 0 un u 0) 0 else utn 1 0 un u 0
theorem tkU_lt {mg : Bool} {un : Nat} {u : Nat → Nat} (h : ∀ j, u j < 8) : ∀ j, tkU mg un u j < 8 := by
  unfold tkU
  split
  · exact utn_lt (utn_lt h (by decide)) (by decide)
  · exact utn_lt h (by decide)
end
section
set_option maxHeartbeats 4000000 in
set_option maxRecDepth 100000 in
theorem c_SL_placeOf {l : Launch} {dC : Nat → ClassId} {dI : Nat → Nat → Nat} {A : Nat → Prop} {a : Nat → Nat} {cB cI cL : ClassId} {h1 h2 s1 s2 : Nat} {op : Bool} {nx wt sf lf dn : Nat} {dg : Nat → Nat} {un : Nat} {ug : Nat → Nat} {qn : Nat} {qt qg : Nat → Nat} {tn : Nat} {tk tv : Nat → Int64} {ts : Nat → Nat} {ef eg ex : Nat} {eF : Nat → Nat} {pf pg px : Nat} {pF : Nat → Nat} (hnx : nx < 2 ^ 30) (hwt : wt ≤ nx) (q : Nat) (hq1 : q < 2 ^ 31) : Met l yX5_placeOf (Cond.code yX5_placeOf cX5_placeOf 2 (some .int) :: TB) { frames := 0, cells := 0, slots := 0, locals := 0 } (xPre Nst (dC, dI) A (tyS cB cI cL) (wS a cB cI cL h1 h2 s1 s2 op nx wt sf lf dn dg un ug qn qt qg tn tk tv ts ef eg ex eF pf pg px pF) [.ref (a 0), .int (nI q)]) (xQi (dC, dI) A (nI (plc nx wt q)) (wS a cB cI cL h1 h2 s1 s2 op nx wt sf lf dn dg un ug qn qt qg tn tk tv ts ef eg ex eF pf pg px pF)) 0 0 A := by
  refine x_ofWi (cc := cX5_placeOf) (maxL := 2) (by decide) rfl (Nat.le_of_ble_eq_true rfl) ?_
  intro p e s m args below meth c Q hx hb hml hts hown hK hN hP hD hS hret ls hl
  have hl : lv_has ls 2 [(0, .ref (a 0)), (1, .int (nI q))] := hl
  have hown : s.vm.findClass RX5 = some m.cls := hown
  have f53 := hts _ (List.mem_cons_of_mem _ tw_215)
  have in_X5 := (fun q hq => List.mem_cons_of_mem _ (inX5 q hq) : ∀ q ∈ wsX50, q ∈ (Cond.code yX5_placeOf cX5_placeOf 2 (some .int) :: TB))
  have f66 := hts _ (List.mem_cons_of_mem _ tw_216)
  refine lv_iload_n hx hb dX5_placeOf_0 rfl (lv_at hl 1 rfl) ?_
  refine x_if_ne (tgt := 6) hx hb dX5_placeOf_1 (by decide) (by omega) (fun c1 => ?_) (fun c1 => ?_)
  · refine lv_iload_n hx hb dX5_placeOf_6 rfl (lv_at hl 1 rfl) ?_
    refine lv_aload_n hx hb dX5_placeOf_7 rfl (lv_at hl 0 rfl) ?_
    refine va_get (D := (dC, dI)) (ci := 5) (v := .int (nI nx)) (C := RX5) (T := TX5) (N := 11) hx hb hts in_X5 hown hK hP 0 rfl rfl 7 (by decide) f53 (fun _ h9 => h9) rfl dX5_placeOf_8 ?_
    refine lv_aload_n hx hb dX5_placeOf_11 rfl (lv_at hl 0 rfl) ?_
    refine va_get (D := (dC, dI)) (ci := 5) (v := .int (nI wt)) (C := RX5) (T := TX5) (N := 11) hx hb hts in_X5 hown hK hP 0 rfl rfl 8 (by decide) f66 (fun _ h9 => h9) rfl dX5_placeOf_12 ?_
    refine x_isub hx hb dX5_placeOf_15 (by omega) ?_
    refine x_icmp_ge (tgt := 23) hx hb dX5_placeOf_16 (by decide) (by omega) (by omega) (fun c16 => ?_) (fun c16 => ?_)
    · refine lv_iconst (v := nI 2) hx hb dX5_placeOf_23 (by decide) ?_
      exact hret dX5_placeOf_24 (by first | rw [plc, if_neg c1, if_pos c16] | rw [plc, if_neg c1, if_neg (Nat.not_lt.mpr c16)]) hP hD hS
    · refine lv_iconst (v := nI 1) hx hb dX5_placeOf_19 (by decide) ?_
      refine lv_goto (tgt := 24) hx hb dX5_placeOf_20 (by decide) ?_
      exact hret dX5_placeOf_24 (by first | rw [plc, if_neg c1, if_pos c16] | rw [plc, if_neg c1, if_neg (Nat.not_lt.mpr c16)]) hP hD hS
  · refine lv_iconst (v := nI 0) hx hb dX5_placeOf_4 (by decide) ?_
    exact hret dX5_placeOf_5 (by rw [plc, if_pos c1]) hP hD hS

set_option maxHeartbeats 4000000 in
set_option maxRecDepth 100000 in
theorem c_SL_shouldBeWhole {l : Launch} {dC : Nat → ClassId} {dI : Nat → Nat → Nat} {A : Nat → Prop} {a : Nat → Nat} {cB cI cL : ClassId} {h1 h2 s1 s2 : Nat} {op : Bool} {nx wt sf lf dn : Nat} {dg : Nat → Nat} {un : Nat} {ug : Nat → Nat} {qn : Nat} {qt qg : Nat → Nat} {tn : Nat} {tk tv : Nat → Int64} {ts : Nat → Nat} {ef eg ex : Nat} {eF : Nat → Nat} {pf pg px : Nat} {pF : Nat → Nat} (hun : un ≤ 64) (hqn : qn ≤ 64) (hug : ∀ j, ug j < 8) (hqt : ∀ j, qt j < 64) (heg : eg < 2 ^ 30) (b : Nat) (hb1 : b < 2 ^ 31) : Met l yX5_shouldBeWhole (Cond.code yX5_shouldBeWhole cX5_shouldBeWhole 2 (some .boolean) :: TB) { frames := 2, cells := 0, slots := 0, locals := 43 } (xPre Nst (dC, dI) A (tyS cB cI cL) (wS a cB cI cL h1 h2 s1 s2 op nx wt sf lf dn dg un ug qn qt qg tn tk tv ts ef eg ex eF pf pg px pF) [.ref (a 0), .int (nI b)]) (xQi (dC, dI) A (bI (sbw un ug qt qn eg b)) (wS a cB cI cL h1 h2 s1 s2 op nx wt sf lf dn dg un ug qn qt qg tn tk tv ts ef eg ex eF pf pg px pF)) 0 0 A := by
  refine x_ofWz (cc := cX5_shouldBeWhole) (maxL := 2) (by decide) rfl (Nat.le_of_ble_eq_true rfl) (x_narZ _) ?_
  intro p e s m args below meth c Q hx hb hml hts hown hK hN hP hD hS hret ls hl
  have hl : lv_has ls 2 [(0, .ref (a 0)), (1, .int (nI b))] := hl
  have hown : s.vm.findClass RX5 = some m.cls := hown
  have f21 := hts _ (List.mem_cons_of_mem _ tw_209)
  have in_X5 := (fun q hq => List.mem_cons_of_mem _ (inX5 q hq) : ∀ q ∈ wsX50, q ∈ (Cond.code yX5_shouldBeWhole cX5_shouldBeWhole 2 (some .boolean) :: TB))
  have n164 := hN (.methodLinkNest RX5 164 yX4_of "SegmentLog") (by decide +kernel)
  have ini_X4 := hts _ (List.mem_cons_of_mem _ tw_86)
  have im_yX4_of := hts _ (List.mem_cons_of_mem _ tw_500)
  have se_yX4_of := hts _ (List.mem_cons_of_mem _ tw_50)
  have f28 := hts _ (List.mem_cons_of_mem _ tw_210)
  have n197 := hN (.methodLinkNest RX5 197 yX2_holds "SegmentLog") (by decide +kernel)
  have ini_X2 := hts _ (List.mem_cons_of_mem _ tw_88)
  have im_yX2_holds := hts _ (List.mem_cons_of_mem _ tw_569)
  have se_yX2_holds := hts _ (List.mem_cons_of_mem _ tw_57)
  have f42 := hts _ (List.mem_cons_of_mem _ tw_212)
  have f118 := hN (.fieldLinkNest RX5 118 "SegmentLog$Head" "generation" "I" "SegmentLog") (by decide +kernel)
  have in_X1 := (fun q hq => List.mem_cons_of_mem _ (inX1 q hq) : ∀ q ∈ wsX10, q ∈ (Cond.code yX5_shouldBeWhole cX5_shouldBeWhole 2 (some .boolean) :: TB))
  refine lv_aload_n hx hb dX5_shouldBeWhole_0 rfl (lv_at hl 0 rfl) ?_
  refine va_get (D := (dC, dI)) (ci := 5) (v := .ref (a 3)) (C := RX5) (T := TX5) (N := 11) hx hb hts in_X5 hown hK hP 0 rfl rfl 1 (by decide) f21 (fun _ h9 => h9) rfl dX5_shouldBeWhole_1 ?_
  refine lv_iload_n hx hb dX5_shouldBeWhole_4 rfl (lv_at hl 1 rfl) ?_
  refine x_calli (va_runVN (As := [.int (nI b)]) (rest := []) ⟨hx, hb, hml, hown, hts⟩ (c_Us_of (show okU (fun ug' => wS a cB cI cL h1 h2 s1 s2 op nx wt sf lf dn dg un ug' qn qt qg tn tk tv ts ef eg ex eF pf pg px pF) 3 4 (a 3) (a 4) cI un from ⟨fun _ => rfl, fun _ => rfl, fun _ _ => rfl⟩) (tyS_I cB cI cL) (by omega) ug hug b (by omega)) ⟨(va_cnB 1 hts (tbG tw_501) rfl rfl rfl n164 ini_X4 (by decide +kernel) ⟨Nat.le_of_ble_eq_true rfl, Nat.le_of_ble_eq_true rfl⟩), im_yX4_of, se_yX4_of⟩ ⟨x_blind, va_recv hK hP (ci := 4) (q0 := 3) rfl rfl, x_pre hK hP hD hN⟩ rfl rfl hl.1 rfl (lv_room (Nat.le_of_ble_eq_true rfl)) dX5_shouldBeWhole_5 ⟨Nat.zero_le _, Nat.zero_le _⟩) hS (fun H locs hP hD hS => ?_)
  have hP : va_P (dC, dI) vwCl (wS a cB cI cL h1 h2 s1 s2 op nx wt sf lf dn dg un ug qn qt qg tn tk tv ts ef eg ex eF pf pg px pF) H := hP
  have hD : va_D A (wS a cB cI cL h1 h2 s1 s2 op nx wt sf lf dn dg un ug qn qt qg tn tk tv ts ef eg ex eF pf pg px pF) := hD
  have hv5 : uof un ug b < 8 := uof_lt hug
  rcases (show uof un ug b = 1 ∨ uof un ug b = 2 ∨ uof un ug b = 3 ∨ (uof un ug b < 1 ∨ 3 < uof un ug b) by omega) with c8 | c8 | c8 | c8
  · refine x_tabIn (tgt := 36) hx hb dX5_shouldBeWhole_8 c8 (by decide) (by decide) (by decide) rfl (by decide) ?_
    refine lv_aload_n hx hb dX5_shouldBeWhole_36 rfl (lv_at hl 0 rfl) ?_
    refine va_get (D := (dC, dI)) (ci := 5) (v := .ref (a 5)) (C := RX5) (T := TX5) (N := 11) hx hb hts in_X5 hown hK hP 0 rfl rfl 2 (by decide) f28 (fun _ h9 => h9) rfl dX5_shouldBeWhole_37 ?_
    refine lv_iload_n hx hb dX5_shouldBeWhole_40 rfl (lv_at hl 1 rfl) ?_
    refine x_calli (va_runVN (As := [.int (nI b)]) (rest := []) ⟨hx, hb, hml, hown, hts⟩ (c_Qu_holds (by omega) hqt b (by omega)) ⟨(va_cnB 1 hts (tbG tw_570) rfl rfl rfl n197 ini_X2 (by decide +kernel) ⟨Nat.le_of_ble_eq_true rfl, Nat.le_of_ble_eq_true rfl⟩), im_yX2_holds, se_yX2_holds⟩ ⟨x_blind, va_recv hK hP (ci := 2) (q0 := 5) rfl rfl, x_pre hK hP hD hN⟩ rfl rfl hl.1 rfl (lv_room (Nat.le_of_ble_eq_true rfl)) dX5_shouldBeWhole_41 ⟨Nat.zero_le _, Nat.zero_le _⟩) hS (fun H locs hP hD hS => ?_)
    have hP : va_P (dC, dI) vwCl (wS a cB cI cL h1 h2 s1 s2 op nx wt sf lf dn dg un ug qn qt qg tn tk tv ts ef eg ex eF pf pg px pF) H := hP
    have hD : va_D A (wS a cB cI cL h1 h2 s1 s2 op nx wt sf lf dn dg un ug qn qt qg tn tk tv ts ef eg ex eF pf pg px pF) := hD
    refine x_if_ne_b (tgt := 51) hx hb dX5_shouldBeWhole_44 (by decide) (fun c44 => ?_) (fun c44 => ?_)
    · refine lv_iconst (v := nI 0) hx hb dX5_shouldBeWhole_51 (by decide) ?_
      exact hret dX5_shouldBeWhole_52 (by simp [sbw, c8, c44, bI]; try rfl) hP hD hS
    · refine lv_iconst (v := nI 1) hx hb dX5_shouldBeWhole_47 (by decide) ?_
      refine lv_goto (tgt := 52) hx hb dX5_shouldBeWhole_48 (by decide) ?_
      exact hret dX5_shouldBeWhole_52 (by simp [sbw, c8, c44, bI]; try rfl) hP hD hS
  · refine x_tabIn (tgt := 53) hx hb dX5_shouldBeWhole_8 c8 (by decide) (by decide) (by decide) rfl (by decide) ?_
    refine lv_iconst (v := nI 1) hx hb dX5_shouldBeWhole_53 (by decide) ?_
    exact hret dX5_shouldBeWhole_54 (by simp [sbw, c8, bI]; try rfl) hP hD hS
  · refine x_tabIn (tgt := 55) hx hb dX5_shouldBeWhole_8 c8 (by decide) (by decide) (by decide) rfl (by decide) ?_
    refine lv_aload_n hx hb dX5_shouldBeWhole_55 rfl (lv_at hl 0 rfl) ?_
    refine va_get (D := (dC, dI)) (ci := 5) (v := .ref h1) (C := RX5) (T := TX5) (N := 11) hx hb hts in_X5 hown hK hP 0 rfl rfl 4 (by decide) f42 (fun _ h9 => h9) rfl dX5_shouldBeWhole_56 ?_
    refine va_getN (D := (dC, dI)) (ci := 1) (v := .int (nI eg)) (C := RX1) (T := TX1) (N := 4) hx hb hts in_X1 hown hK hP 13 rfl rfl 2 (by decide) (va_Nw.use (A := args) rfl f118) (fun _ h9 => h9) rfl dX5_shouldBeWhole_59 ?_
    refine x_if_le (tgt := 82) hx hb dX5_shouldBeWhole_62 (by decide) (by omega) (fun c62 => ?_) (fun c62 => ?_)
    · refine lv_iconst (v := nI 0) hx hb dX5_shouldBeWhole_82 (by decide) ?_
      exact hret dX5_shouldBeWhole_83 (by first | (simp [sbw, c8, c62, c75, bI]; done) | (simp [sbw, c8, c62, c75, bI]; rfl) | (simp [sbw, c8, c62, bI]; rfl)) hP hD hS
    · refine lv_aload_n hx hb dX5_shouldBeWhole_65 rfl (lv_at hl 0 rfl) ?_
      refine va_get (D := (dC, dI)) (ci := 5) (v := .ref h1) (C := RX5) (T := TX5) (N := 11) hx hb hts in_X5 hown hK hP 0 rfl rfl 4 (by decide) f42 (fun _ h9 => h9) rfl dX5_shouldBeWhole_66 ?_
      refine va_getN (D := (dC, dI)) (ci := 1) (v := .int (nI eg)) (C := RX1) (T := TX1) (N := 4) hx hb hts in_X1 hown hK hP 13 rfl rfl 2 (by decide) (va_Nw.use (A := args) rfl f118) (fun _ h9 => h9) rfl dX5_shouldBeWhole_69 ?_
      refine lv_iconst (v := nI 2) hx hb dX5_shouldBeWhole_72 (by decide) ?_
      refine x_irem hx hb dX5_shouldBeWhole_73 (by omega) (by omega) (by omega) ?_
      refine lv_iload_n hx hb dX5_shouldBeWhole_74 rfl (lv_at hl 1 rfl) ?_
      refine x_icmp_ne (tgt := 82) hx hb dX5_shouldBeWhole_75 (by decide) (by omega) (by omega) (fun c75 => ?_) (fun c75 => ?_)
      · refine lv_iconst (v := nI 0) hx hb dX5_shouldBeWhole_82 (by decide) ?_
        exact hret dX5_shouldBeWhole_83 (by first | (simp [sbw, c8, c62, c75, bI]; done) | (simp [sbw, c8, c62, c75, bI]; rfl) | (simp [sbw, c8, c62, bI]; rfl)) hP hD hS
      · refine lv_iconst (v := nI 1) hx hb dX5_shouldBeWhole_78 (by decide) ?_
        refine lv_goto (tgt := 83) hx hb dX5_shouldBeWhole_79 (by decide) ?_
        exact hret dX5_shouldBeWhole_83 (by first | (simp [sbw, c8, c62, c75, bI]; done) | (simp [sbw, c8, c62, c75, bI]; rfl) | (simp [sbw, c8, c62, bI]; rfl)) hP hD hS
  · refine x_tabOut (tgt := 84) hx hb dX5_shouldBeWhole_8 (by omega) (by omega) (by decide) ?_
    refine lv_iconst (v := nI 0) hx hb dX5_shouldBeWhole_84 (by decide) ?_
    exact hret dX5_shouldBeWhole_85 (by rw [sbw, if_neg (by omega), if_neg (by omega), if_neg (by omega)]; rfl) hP hD hS

set_option maxHeartbeats 4000000 in
set_option maxRecDepth 100000 in
theorem c_SL_countOpen {l : Launch} {dC : Nat → ClassId} {dI : Nat → Nat → Nat} {A : Nat → Prop} {a : Nat → Nat} {cB cI cL : ClassId} {h1 h2 s1 s2 : Nat} {op : Bool} {nx wt sf lf dn : Nat} {dg : Nat → Nat} {un : Nat} {ug : Nat → Nat} {qn : Nat} {qt qg : Nat → Nat} {tn : Nat} {tk tv : Nat → Int64} {ts : Nat → Nat} {ef eg ex : Nat} {eF : Nat → Nat} {pf pg px : Nat} {pF : Nat → Nat} (hun : un ≤ 64) (hug : ∀ j, ug j < 8) (w : Nat) (hw1 : w < 2 ^ 31) : Met l yX5_countOpen (Cond.code yX5_countOpen cX5_countOpen 2 (some .int) :: TB) { frames := 1, cells := 0, slots := 0, locals := 23 } (xPre Nst (dC, dI) A (tyS cB cI cL) (wS a cB cI cL h1 h2 s1 s2 op nx wt sf lf dn dg un ug qn qt qg tn tk tv ts ef eg ex eF pf pg px pF) [.ref (a 0), .int (nI w)]) (xQi (dC, dI) A (nI (cnO un ug ef tn wt qn eg nx lf w)) (wS a cB cI cL h1 h2 s1 s2 op nx wt sf lf dn dg un ug qn qt qg tn tk tv ts ef eg ex eF pf pg px pF)) 0 0 A := by
  refine x_ofWi (cc := cX5_countOpen) (maxL := 2) (by decide) rfl (Nat.le_of_ble_eq_true rfl) ?_
  intro p e s m args below meth c Q hx hb hml hts hown hK hN hP hD hS hret ls hl
  have hl : lv_has ls 2 [(0, .ref (a 0)), (1, .int (nI w))] := hl
  have hown : s.vm.findClass RX5 = some m.cls := hown
  have f21 := hts _ (List.mem_cons_of_mem _ tw_209)
  have in_X5 := (fun q hq => List.mem_cons_of_mem _ (inX5 q hq) : ∀ q ∈ wsX50, q ∈ (Cond.code yX5_countOpen cX5_countOpen 2 (some .int) :: TB))
  have n186 := hN (.methodLinkNest RX5 186 yX4_howMany "SegmentLog") (by decide +kernel)
  have ini_X4 := hts _ (List.mem_cons_of_mem _ tw_86)
  have im_yX4_howMany := hts _ (List.mem_cons_of_mem _ tw_586)
  have se_yX4_howMany := hts _ (List.mem_cons_of_mem _ tw_59)
  have f42 := hts _ (List.mem_cons_of_mem _ tw_212)
  have f91 := hN (.fieldLinkNest RX5 91 "SegmentLog$Head" "files" "I" "SegmentLog") (by decide +kernel)
  have in_X1 := (fun q hq => List.mem_cons_of_mem _ (inX1 q hq) : ∀ q ∈ wsX10, q ∈ (Cond.code yX5_countOpen cX5_countOpen 2 (some .int) :: TB))
  have f35 := hts _ (List.mem_cons_of_mem _ tw_211)
  have f94 := hN (.fieldLinkNest RX5 94 "SegmentLog$Table" "size" "I" "SegmentLog") (by decide +kernel)
  have in_X3 := (fun q hq => List.mem_cons_of_mem _ (inX3 q hq) : ∀ q ∈ wsX30, q ∈ (Cond.code yX5_countOpen cX5_countOpen 2 (some .int) :: TB))
  have f66 := hts _ (List.mem_cons_of_mem _ tw_216)
  have f28 := hts _ (List.mem_cons_of_mem _ tw_210)
  have f189 := hN (.fieldLinkNest RX5 189 "SegmentLog$Queue" "size" "I" "SegmentLog") (by decide +kernel)
  have in_X2 := (fun q hq => List.mem_cons_of_mem _ (inX2 q hq) : ∀ q ∈ wsX20, q ∈ (Cond.code yX5_countOpen cX5_countOpen 2 (some .int) :: TB))
  have f118 := hN (.fieldLinkNest RX5 118 "SegmentLog$Head" "generation" "I" "SegmentLog") (by decide +kernel)
  have f53 := hts _ (List.mem_cons_of_mem _ tw_215)
  have f190 := hts _ (List.mem_cons_of_mem _ tw_218)
  refine lv_iload_n hx hb dX5_countOpen_0 rfl (lv_at hl 1 rfl) ?_
  rcases (show w = 1 ∨ w = 2 ∨ w = 3 ∨ w = 4 ∨ w = 5 ∨ w = 6 ∨ w = 7 ∨ w = 8 ∨ w = 9 ∨ (w < 1 ∨ 9 < w) by omega) with c1 | c1 | c1 | c1 | c1 | c1 | c1 | c1 | c1 | c1
  · refine x_tabIn (tgt := 52) hx hb dX5_countOpen_1 c1 (by decide) (by decide) (by decide) rfl (by decide) ?_
    refine lv_aload_n hx hb dX5_countOpen_52 rfl (lv_at hl 0 rfl) ?_
    refine va_get (D := (dC, dI)) (ci := 5) (v := .ref (a 3)) (C := RX5) (T := TX5) (N := 11) hx hb hts in_X5 hown hK hP 0 rfl rfl 1 (by decide) f21 (fun _ h9 => h9) rfl dX5_countOpen_53 ?_
    refine lv_iconst (v := nI 0) hx hb dX5_countOpen_56 (by decide) ?_
    refine x_calli (va_runVN (As := [.int (nI 0)]) (rest := []) ⟨hx, hb, hml, hown, hts⟩ (c_Us_howMany (show okU (fun ug' => wS a cB cI cL h1 h2 s1 s2 op nx wt sf lf dn dg un ug' qn qt qg tn tk tv ts ef eg ex eF pf pg px pF) 3 4 (a 3) (a 4) cI un from ⟨fun _ => rfl, fun _ => rfl, fun _ _ => rfl⟩) (tyS_I cB cI cL) (by omega) ug hug 0 (by omega)) ⟨(va_cnB 1 hts (tbG tw_587) rfl rfl rfl n186 ini_X4 (by decide +kernel) ⟨Nat.le_of_ble_eq_true rfl, Nat.le_of_ble_eq_true rfl⟩), im_yX4_howMany, se_yX4_howMany⟩ ⟨x_blind, va_recv hK hP (ci := 4) (q0 := 3) rfl rfl, x_pre hK hP hD hN⟩ rfl rfl hl.1 rfl (lv_room (Nat.le_of_ble_eq_true rfl)) dX5_countOpen_57 ⟨Nat.zero_le _, Nat.zero_le _⟩) hS (fun H locs hP hD hS => ?_)
    have hP : va_P (dC, dI) vwCl (wS a cB cI cL h1 h2 s1 s2 op nx wt sf lf dn dg un ug qn qt qg tn tk tv ts ef eg ex eF pf pg px pF) H := hP
    have hD : va_D A (wS a cB cI cL h1 h2 s1 s2 op nx wt sf lf dn dg un ug qn qt qg tn tk tv ts ef eg ex eF pf pg px pF) := hD
    exact hret dX5_countOpen_60 (by first | (subst c1; rfl) | (rw [cnO]; repeat rw [if_neg (by omega)])) hP hD hS
  · refine x_tabIn (tgt := 61) hx hb dX5_countOpen_1 c1 (by decide) (by decide) (by decide) rfl (by decide) ?_
    refine lv_aload_n hx hb dX5_countOpen_61 rfl (lv_at hl 0 rfl) ?_
    refine va_get (D := (dC, dI)) (ci := 5) (v := .ref h1) (C := RX5) (T := TX5) (N := 11) hx hb hts in_X5 hown hK hP 0 rfl rfl 4 (by decide) f42 (fun _ h9 => h9) rfl dX5_countOpen_62 ?_
    refine va_getN (D := (dC, dI)) (ci := 1) (v := .int (nI ef)) (C := RX1) (T := TX1) (N := 4) hx hb hts in_X1 hown hK hP 13 rfl rfl 1 (by decide) (va_Nw.use (A := args) rfl f91) (fun _ h9 => h9) rfl dX5_countOpen_65 ?_
    exact hret dX5_countOpen_68 (by first | (subst c1; rfl) | (rw [cnO]; repeat rw [if_neg (by omega)])) hP hD hS
  · refine x_tabIn (tgt := 69) hx hb dX5_countOpen_1 c1 (by decide) (by decide) (by decide) rfl (by decide) ?_
    refine lv_aload_n hx hb dX5_countOpen_69 rfl (lv_at hl 0 rfl) ?_
    refine va_get (D := (dC, dI)) (ci := 5) (v := .ref (a 9)) (C := RX5) (T := TX5) (N := 11) hx hb hts in_X5 hown hK hP 0 rfl rfl 3 (by decide) f35 (fun _ h9 => h9) rfl dX5_countOpen_70 ?_
    refine va_getN (D := (dC, dI)) (ci := 3) (v := .int (nI tn)) (C := RX3) (T := TX3) (N := 4) hx hb hts in_X3 hown hK hP 9 rfl rfl 3 (by decide) (va_Nw.use (A := args) rfl f94) (fun _ h9 => h9) rfl dX5_countOpen_73 ?_
    exact hret dX5_countOpen_76 (by first | (subst c1; rfl) | (rw [cnO]; repeat rw [if_neg (by omega)])) hP hD hS
  · refine x_tabIn (tgt := 77) hx hb dX5_countOpen_1 c1 (by decide) (by decide) (by decide) rfl (by decide) ?_
    refine lv_aload_n hx hb dX5_countOpen_77 rfl (lv_at hl 0 rfl) ?_
    refine va_get (D := (dC, dI)) (ci := 5) (v := .int (nI wt)) (C := RX5) (T := TX5) (N := 11) hx hb hts in_X5 hown hK hP 0 rfl rfl 8 (by decide) f66 (fun _ h9 => h9) rfl dX5_countOpen_78 ?_
    exact hret dX5_countOpen_81 (by first | (subst c1; rfl) | (rw [cnO]; repeat rw [if_neg (by omega)])) hP hD hS
  · refine x_tabIn (tgt := 82) hx hb dX5_countOpen_1 c1 (by decide) (by decide) (by decide) rfl (by decide) ?_
    refine lv_aload_n hx hb dX5_countOpen_82 rfl (lv_at hl 0 rfl) ?_
    refine va_get (D := (dC, dI)) (ci := 5) (v := .ref (a 3)) (C := RX5) (T := TX5) (N := 11) hx hb hts in_X5 hown hK hP 0 rfl rfl 1 (by decide) f21 (fun _ h9 => h9) rfl dX5_countOpen_83 ?_
    refine lv_iconst (v := nI 1) hx hb dX5_countOpen_86 (by decide) ?_
    refine x_calli (va_runVN (As := [.int (nI 1)]) (rest := []) ⟨hx, hb, hml, hown, hts⟩ (c_Us_howMany (show okU (fun ug' => wS a cB cI cL h1 h2 s1 s2 op nx wt sf lf dn dg un ug' qn qt qg tn tk tv ts ef eg ex eF pf pg px pF) 3 4 (a 3) (a 4) cI un from ⟨fun _ => rfl, fun _ => rfl, fun _ _ => rfl⟩) (tyS_I cB cI cL) (by omega) ug hug 1 (by omega)) ⟨(va_cnB 1 hts (tbG tw_587) rfl rfl rfl n186 ini_X4 (by decide +kernel) ⟨Nat.le_of_ble_eq_true rfl, Nat.le_of_ble_eq_true rfl⟩), im_yX4_howMany, se_yX4_howMany⟩ ⟨x_blind, va_recv hK hP (ci := 4) (q0 := 3) rfl rfl, x_pre hK hP hD hN⟩ rfl rfl hl.1 rfl (lv_room (Nat.le_of_ble_eq_true rfl)) dX5_countOpen_87 ⟨Nat.zero_le _, Nat.zero_le _⟩) hS (fun H locs hP hD hS => ?_)
    have hP : va_P (dC, dI) vwCl (wS a cB cI cL h1 h2 s1 s2 op nx wt sf lf dn dg un ug qn qt qg tn tk tv ts ef eg ex eF pf pg px pF) H := hP
    have hD : va_D A (wS a cB cI cL h1 h2 s1 s2 op nx wt sf lf dn dg un ug qn qt qg tn tk tv ts ef eg ex eF pf pg px pF) := hD
    exact hret dX5_countOpen_90 (by first | (subst c1; rfl) | (rw [cnO]; repeat rw [if_neg (by omega)])) hP hD hS
  · refine x_tabIn (tgt := 91) hx hb dX5_countOpen_1 c1 (by decide) (by decide) (by decide) rfl (by decide) ?_
    refine lv_aload_n hx hb dX5_countOpen_91 rfl (lv_at hl 0 rfl) ?_
    refine va_get (D := (dC, dI)) (ci := 5) (v := .ref (a 5)) (C := RX5) (T := TX5) (N := 11) hx hb hts in_X5 hown hK hP 0 rfl rfl 2 (by decide) f28 (fun _ h9 => h9) rfl dX5_countOpen_92 ?_
    refine va_getN (D := (dC, dI)) (ci := 2) (v := .int (nI qn)) (C := RX2) (T := TX2) (N := 3) hx hb hts in_X2 hown hK hP 5 rfl rfl 2 (by decide) (va_Nw.use (A := args) rfl f189) (fun _ h9 => h9) rfl dX5_countOpen_95 ?_
    exact hret dX5_countOpen_98 (by first | (subst c1; rfl) | (rw [cnO]; repeat rw [if_neg (by omega)])) hP hD hS
  · refine x_tabIn (tgt := 99) hx hb dX5_countOpen_1 c1 (by decide) (by decide) (by decide) rfl (by decide) ?_
    refine lv_aload_n hx hb dX5_countOpen_99 rfl (lv_at hl 0 rfl) ?_
    refine va_get (D := (dC, dI)) (ci := 5) (v := .ref h1) (C := RX5) (T := TX5) (N := 11) hx hb hts in_X5 hown hK hP 0 rfl rfl 4 (by decide) f42 (fun _ h9 => h9) rfl dX5_countOpen_100 ?_
    refine va_getN (D := (dC, dI)) (ci := 1) (v := .int (nI eg)) (C := RX1) (T := TX1) (N := 4) hx hb hts in_X1 hown hK hP 13 rfl rfl 2 (by decide) (va_Nw.use (A := args) rfl f118) (fun _ h9 => h9) rfl dX5_countOpen_103 ?_
    exact hret dX5_countOpen_106 (by first | (subst c1; rfl) | (rw [cnO]; repeat rw [if_neg (by omega)])) hP hD hS
  · refine x_tabIn (tgt := 107) hx hb dX5_countOpen_1 c1 (by decide) (by decide) (by decide) rfl (by decide) ?_
    refine lv_aload_n hx hb dX5_countOpen_107 rfl (lv_at hl 0 rfl) ?_
    refine va_get (D := (dC, dI)) (ci := 5) (v := .int (nI nx)) (C := RX5) (T := TX5) (N := 11) hx hb hts in_X5 hown hK hP 0 rfl rfl 7 (by decide) f53 (fun _ h9 => h9) rfl dX5_countOpen_108 ?_
    exact hret dX5_countOpen_111 (by first | (subst c1; rfl) | (rw [cnO]; repeat rw [if_neg (by omega)])) hP hD hS
  · refine x_tabIn (tgt := 112) hx hb dX5_countOpen_1 c1 (by decide) (by decide) (by decide) rfl (by decide) ?_
    refine lv_iconst (v := nI 1) hx hb dX5_countOpen_112 (by decide) ?_
    exact hret dX5_countOpen_113 (by first | (subst c1; rfl) | (rw [cnO]; repeat rw [if_neg (by omega)])) hP hD hS
  · refine x_tabOut (tgt := 114) hx hb dX5_countOpen_1 (by omega) (by omega) (by decide) ?_
    refine lv_aload_n hx hb dX5_countOpen_114 rfl (lv_at hl 0 rfl) ?_
    refine va_get (D := (dC, dI)) (ci := 5) (v := .int (nI lf)) (C := RX5) (T := TX5) (N := 11) hx hb hts in_X5 hown hK hP 0 rfl rfl 10 (by decide) f190 (fun _ h9 => h9) rfl dX5_countOpen_115 ?_
    exact hret dX5_countOpen_118 (by first | (subst c1; rfl) | (rw [cnO]; repeat rw [if_neg (by omega)])) hP hD hS

set_option maxHeartbeats 4000000 in
set_option maxRecDepth 100000 in
theorem c_SL_forget {l : Launch} {dC : Nat → ClassId} {dI : Nat → Nat → Nat} {A : Nat → Prop} {a : Nat → Nat} {cB cI cL : ClassId} {h1 h2 s1 s2 : Nat} {op : Bool} {nx wt sf lf dn : Nat} {dg : Nat → Nat} {un : Nat} {ug : Nat → Nat} {qn : Nat} {qt qg : Nat → Nat} {tn : Nat} {tk tv : Nat → Int64} {ts : Nat → Nat} {ef eg ex : Nat} {eF : Nat → Nat} {pf pg px : Nat} {pF : Nat → Nat} (hdn : dn ≤ 64) (hug : ∀ j, ug j < 8) : Met l yX5_forget (Cond.code yX5_forget cX5_forget 1 none :: TB) { frames := 2, cells := 0, slots := 0, locals := 46 } (xPre Nst (dC, dI) A (tyS cB cI cL) (wS a cB cI cL h1 h2 s1 s2 op nx wt sf lf dn dg un ug qn qt qg tn tk tv ts ef eg ex eF pf pg px pF) [.ref (a 0)]) (xQv (dC, dI) A (wS a cB cI cL h1 h2 s1 s2 op ex 0 0 0 dn dg dn (uclr dn ug) 0 qt qg 0 tk tv ts ef eg ex eF pf pg px pF)) 0 0 A := by
  refine x_ofWv (cc := cX5_forget) (maxL := 1) (by decide) rfl (Nat.le_of_ble_eq_true rfl) ?_
  intro p e s m args below meth c Q hx hb hml hts hown hK hN hP hD hS hret ls hl
  have hl : lv_has ls 1 [(0, .ref (a 0))] := hl
  have hown : s.vm.findClass RX5 = some m.cls := hown
  have f21 := hts _ (List.mem_cons_of_mem _ tw_209)
  have in_X5 := (fun q hq => List.mem_cons_of_mem _ (inX5 q hq) : ∀ q ∈ wsX50, q ∈ (Cond.code yX5_forget cX5_forget 1 none :: TB))
  have f14 := hts _ (List.mem_cons_of_mem _ tw_208)
  have f173 := hN (.fieldLinkNest RX5 173 "SegmentLog$Blocks" "size" "I" "SegmentLog") (by decide +kernel)
  have in_X0 := (fun q hq => List.mem_cons_of_mem _ (inX0 q hq) : ∀ q ∈ wsX00, q ∈ (Cond.code yX5_forget cX5_forget 1 none :: TB))
  have n193 := hN (.methodLinkNest RX5 193 yX4_clear "SegmentLog") (by decide +kernel)
  have ini_X4 := hts _ (List.mem_cons_of_mem _ tw_86)
  have im_yX4_clear := hts _ (List.mem_cons_of_mem _ tw_124)
  have se_yX4_clear := hts _ (List.mem_cons_of_mem _ tw_0)
  have f28 := hts _ (List.mem_cons_of_mem _ tw_210)
  have n195 := hN (.methodLinkNest RX5 195 yX2_clear "SegmentLog") (by decide +kernel)
  have ini_X2 := hts _ (List.mem_cons_of_mem _ tw_88)
  have im_yX2_clear := hts _ (List.mem_cons_of_mem _ tw_270)
  have se_yX2_clear := hts _ (List.mem_cons_of_mem _ tw_8)
  have f35 := hts _ (List.mem_cons_of_mem _ tw_211)
  have n196 := hN (.methodLinkNest RX5 196 yX3_clear "SegmentLog") (by decide +kernel)
  have ini_X3 := hts _ (List.mem_cons_of_mem _ tw_89)
  have im_yX3_clear := hts _ (List.mem_cons_of_mem _ tw_274)
  have se_yX3_clear := hts _ (List.mem_cons_of_mem _ tw_9)
  have f42 := hts _ (List.mem_cons_of_mem _ tw_212)
  have f90 := hN (.fieldLinkNest RX5 90 "SegmentLog$Head" "next" "I" "SegmentLog") (by decide +kernel)
  have in_X1 := (fun q hq => List.mem_cons_of_mem _ (inX1 q hq) : ∀ q ∈ wsX10, q ∈ (Cond.code yX5_forget cX5_forget 1 none :: TB))
  have f53 := hts _ (List.mem_cons_of_mem _ tw_215)
  have f66 := hts _ (List.mem_cons_of_mem _ tw_216)
  have f80 := hts _ (List.mem_cons_of_mem _ tw_217)
  have f190 := hts _ (List.mem_cons_of_mem _ tw_218)
  refine lv_aload_n hx hb dX5_forget_0 rfl (lv_at hl 0 rfl) ?_
  refine va_get (D := (dC, dI)) (ci := 5) (v := .ref (a 3)) (C := RX5) (T := TX5) (N := 11) hx hb hts in_X5 hown hK hP 0 rfl rfl 1 (by decide) f21 (fun _ h9 => h9) rfl dX5_forget_1 ?_
  refine lv_aload_n hx hb dX5_forget_4 rfl (lv_at hl 0 rfl) ?_
  refine va_get (D := (dC, dI)) (ci := 5) (v := .ref (a 1)) (C := RX5) (T := TX5) (N := 11) hx hb hts in_X5 hown hK hP 0 rfl rfl 0 (by decide) f14 (fun _ h9 => h9) rfl dX5_forget_5 ?_
  refine va_getN (D := (dC, dI)) (ci := 0) (v := .int (nI dn)) (C := RX0) (T := TX0) (N := 2) hx hb hts in_X0 hown hK hP 1 rfl rfl 1 (by decide) (va_Nw.use (A := args) rfl f173) (fun _ h9 => h9) rfl dX5_forget_8 ?_
  refine x_callv (va_runVN (As := [.int (nI dn)]) (rest := []) ⟨hx, hb, hml, hown, hts⟩ (c_Us_clear (show okUn (fun un' ug' => wS a cB cI cL h1 h2 s1 s2 op nx wt sf lf dn dg un' ug' qn qt qg tn tk tv ts ef eg ex eF pf pg px pF) 3 4 (a 3) (a 4) cI from ⟨fun _ _ => rfl, fun _ _ => rfl, fun _ _ _ => rfl, fun _ _ _ => rfl⟩) (tyS_I cB cI cL) un ug hug dn (by omega)) ⟨(va_cnB 1 hts (tbG tw_125) rfl rfl rfl n193 ini_X4 (by decide +kernel) ⟨Nat.le_of_ble_eq_true rfl, Nat.le_of_ble_eq_true rfl⟩), im_yX4_clear, se_yX4_clear⟩ ⟨x_blind, va_recv hK hP (ci := 4) (q0 := 3) rfl rfl, x_pre hK hP hD hN⟩ rfl rfl hl.1 rfl (lv_room (Nat.le_of_ble_eq_true rfl)) dX5_forget_11 ⟨Nat.zero_le _, Nat.zero_le _⟩) hS (fun H locs hP hD hS => ?_)
  have hP : va_P (dC, dI) vwCl (wS a cB cI cL h1 h2 s1 s2 op nx wt sf lf dn dg dn (uclr dn ug) qn qt qg tn tk tv ts ef eg ex eF pf pg px pF) H := hP
  have hD : va_D A (wS a cB cI cL h1 h2 s1 s2 op nx wt sf lf dn dg dn (uclr dn ug) qn qt qg tn tk tv ts ef eg ex eF pf pg px pF) := hD
  refine lv_aload_n hx hb dX5_forget_14 rfl (lv_at hl 0 rfl) ?_
  refine va_get (D := (dC, dI)) (ci := 5) (v := .ref (a 5)) (C := RX5) (T := TX5) (N := 11) hx hb hts in_X5 hown hK hP 0 rfl rfl 2 (by decide) f28 (fun _ h9 => h9) rfl dX5_forget_15 ?_
  refine x_callv (va_runVN (As := []) (rest := []) ⟨hx, hb, hml, hown, hts⟩ c_Qu_clear ⟨(va_cnB 0 hts (tbG tw_271) rfl rfl rfl n195 ini_X2 (by decide +kernel) ⟨Nat.le_of_ble_eq_true rfl, Nat.le_of_ble_eq_true rfl⟩), im_yX2_clear, se_yX2_clear⟩ ⟨x_blind, va_recv hK hP (ci := 2) (q0 := 5) rfl rfl, x_pre hK hP hD hN⟩ rfl rfl hl.1 rfl (lv_room (Nat.le_of_ble_eq_true rfl)) dX5_forget_18 ⟨Nat.zero_le _, Nat.zero_le _⟩) hS (fun H locs hP hD hS => ?_)
  have hP : va_P (dC, dI) vwCl (wS a cB cI cL h1 h2 s1 s2 op nx wt sf lf dn dg dn (uclr dn ug) 0 qt qg tn tk tv ts ef eg ex eF pf pg px pF) H := hP
  have hD : va_D A (wS a cB cI cL h1 h2 s1 s2 op nx wt sf lf dn dg dn (uclr dn ug) 0 qt qg tn tk tv ts ef eg ex eF pf pg px pF) := hD
  refine lv_aload_n hx hb dX5_forget_21 rfl (lv_at hl 0 rfl) ?_
  refine va_get (D := (dC, dI)) (ci := 5) (v := .ref (a 9)) (C := RX5) (T := TX5) (N := 11) hx hb hts in_X5 hown hK hP 0 rfl rfl 3 (by decide) f35 (fun _ h9 => h9) rfl dX5_forget_22 ?_
  refine x_callv (va_runVN (As := []) (rest := []) ⟨hx, hb, hml, hown, hts⟩ c_Ta_clear ⟨(va_cnB 0 hts (tbG tw_275) rfl rfl rfl n196 ini_X3 (by decide +kernel) ⟨Nat.le_of_ble_eq_true rfl, Nat.le_of_ble_eq_true rfl⟩), im_yX3_clear, se_yX3_clear⟩ ⟨x_blind, va_recv hK hP (ci := 3) (q0 := 9) rfl rfl, x_pre hK hP hD hN⟩ rfl rfl hl.1 rfl (lv_room (Nat.le_of_ble_eq_true rfl)) dX5_forget_25 ⟨Nat.zero_le _, Nat.zero_le _⟩) hS (fun H locs hP hD hS => ?_)
  have hP : va_P (dC, dI) vwCl (wS a cB cI cL h1 h2 s1 s2 op nx wt sf lf dn dg dn (uclr dn ug) 0 qt qg 0 tk tv ts ef eg ex eF pf pg px pF) H := hP
  have hD : va_D A (wS a cB cI cL h1 h2 s1 s2 op nx wt sf lf dn dg dn (uclr dn ug) 0 qt qg 0 tk tv ts ef eg ex eF pf pg px pF) := hD
  refine lv_aload_n hx hb dX5_forget_28 rfl (lv_at hl 0 rfl) ?_
  refine lv_aload_n hx hb dX5_forget_29 rfl (lv_at hl 0 rfl) ?_
  refine va_get (D := (dC, dI)) (ci := 5) (v := .ref h1) (C := RX5) (T := TX5) (N := 11) hx hb hts in_X5 hown hK hP 0 rfl rfl 4 (by decide) f42 (fun _ h9 => h9) rfl dX5_forget_30 ?_
  refine va_getN (D := (dC, dI)) (ci := 1) (v := .int (nI ex)) (C := RX1) (T := TX1) (N := 4) hx hb hts in_X1 hown hK hP 13 rfl rfl 3 (by decide) (va_Nw.use (A := args) rfl f90) (fun _ h9 => h9) rfl dX5_forget_33 ?_
  refine va_put (D := (dC, dI)) (ci := 5) (v := .int (nI ex)) (ty := .int) (C := RX5) (T := TX5) (N := 11) hx hb hts in_X5 tyX5 tyX5_ok nmX5 hown hK hP hD hS 0 rfl rfl 7 (by decide) f53 (fun _ h9 => h9) rfl (by decide +kernel) rfl rfl (Nat.le_of_ble_eq_true rfl) dX5_forget_36 (fun H locs hP hD hS => ?_)
  have hP : va_P (dC, dI) vwCl (wS a cB cI cL h1 h2 s1 s2 op ex wt sf lf dn dg dn (uclr dn ug) 0 qt qg 0 tk tv ts ef eg ex eF pf pg px pF) H := hP
  have hD : va_D A (wS a cB cI cL h1 h2 s1 s2 op ex wt sf lf dn dg dn (uclr dn ug) 0 qt qg 0 tk tv ts ef eg ex eF pf pg px pF) := hD
  refine lv_aload_n hx hb dX5_forget_39 rfl (lv_at hl 0 rfl) ?_
  refine lv_iconst (v := nI 0) hx hb dX5_forget_40 (by decide) ?_
  refine va_put (D := (dC, dI)) (ci := 5) (v := .int (nI 0)) (ty := .int) (C := RX5) (T := TX5) (N := 11) hx hb hts in_X5 tyX5 tyX5_ok nmX5 hown hK hP hD hS 0 rfl rfl 8 (by decide) f66 (fun _ h9 => h9) rfl (by decide +kernel) rfl rfl (Nat.le_of_ble_eq_true rfl) dX5_forget_41 (fun H locs hP hD hS => ?_)
  have hP : va_P (dC, dI) vwCl (wS a cB cI cL h1 h2 s1 s2 op ex 0 sf lf dn dg dn (uclr dn ug) 0 qt qg 0 tk tv ts ef eg ex eF pf pg px pF) H := hP
  have hD : va_D A (wS a cB cI cL h1 h2 s1 s2 op ex 0 sf lf dn dg dn (uclr dn ug) 0 qt qg 0 tk tv ts ef eg ex eF pf pg px pF) := hD
  refine lv_aload_n hx hb dX5_forget_44 rfl (lv_at hl 0 rfl) ?_
  refine lv_iconst (v := nI 0) hx hb dX5_forget_45 (by decide) ?_
  refine va_put (D := (dC, dI)) (ci := 5) (v := .int (nI 0)) (ty := .int) (C := RX5) (T := TX5) (N := 11) hx hb hts in_X5 tyX5 tyX5_ok nmX5 hown hK hP hD hS 0 rfl rfl 9 (by decide) f80 (fun _ h9 => h9) rfl (by decide +kernel) rfl rfl (Nat.le_of_ble_eq_true rfl) dX5_forget_46 (fun H locs hP hD hS => ?_)
  have hP : va_P (dC, dI) vwCl (wS a cB cI cL h1 h2 s1 s2 op ex 0 0 lf dn dg dn (uclr dn ug) 0 qt qg 0 tk tv ts ef eg ex eF pf pg px pF) H := hP
  have hD : va_D A (wS a cB cI cL h1 h2 s1 s2 op ex 0 0 lf dn dg dn (uclr dn ug) 0 qt qg 0 tk tv ts ef eg ex eF pf pg px pF) := hD
  refine lv_aload_n hx hb dX5_forget_49 rfl (lv_at hl 0 rfl) ?_
  refine lv_iconst (v := nI 0) hx hb dX5_forget_50 (by decide) ?_
  refine va_put (D := (dC, dI)) (ci := 5) (v := .int (nI 0)) (ty := .int) (C := RX5) (T := TX5) (N := 11) hx hb hts in_X5 tyX5 tyX5_ok nmX5 hown hK hP hD hS 0 rfl rfl 10 (by decide) f190 (fun _ h9 => h9) rfl (by decide +kernel) rfl rfl (Nat.le_of_ble_eq_true rfl) dX5_forget_51 (fun H locs hP hD hS => ?_)
  have hP : va_P (dC, dI) vwCl (wS a cB cI cL h1 h2 s1 s2 op ex 0 0 0 dn dg dn (uclr dn ug) 0 qt qg 0 tk tv ts ef eg ex eF pf pg px pF) H := hP
  have hD : va_D A (wS a cB cI cL h1 h2 s1 s2 op ex 0 0 0 dn dg dn (uclr dn ug) 0 qt qg 0 tk tv ts ef eg ex eF pf pg px pF) := hD
  exact hret dX5_forget_54 hP hD hS

set_option maxHeartbeats 4000000 in
set_option maxRecDepth 100000 in
theorem c_SL_queueRecord {l : Launch} {dC : Nat → ClassId} {dI : Nat → Nat → Nat} {A : Nat → Prop} {a : Nat → Nat} {cB cI cL : ClassId} {h1 h2 s1 s2 : Nat} {op : Bool} {nx wt sf lf dn : Nat} {dg : Nat → Nat} {un : Nat} {ug : Nat → Nat} {qn : Nat} {qt qg : Nat → Nat} {tn : Nat} {tk tv : Nat → Int64} {ts : Nat → Nat} {ef eg ex : Nat} {eF : Nat → Nat} {pf pg px : Nat} {pF : Nat → Nat} (htn : tn ≤ 192) (hqg : ∀ j, qg j < 256) (z p1 i : Nat) (hs1 : z < 2 ^ 31) (hp1 : p1 < 2 ^ 20) (hi : i < tn) : Met l yX5_queueRecord (Cond.code yX5_queueRecord cX5_queueRecord 5 none :: TB) { frames := 3, cells := 0, slots := 0, locals := 73 } (xPre Nst (dC, dI) A (tyS cB cI cL) (wS a cB cI cL h1 h2 s1 s2 op nx wt sf lf dn dg un ug qn qt qg tn tk tv ts ef eg ex eF pf pg px pF) [.ref (a 0), .int (nI z), .int (nI p1), .int (nI i)]) (xQv (dC, dI) A (wS a cB cI cL h1 h2 s1 s2 op nx wt sf lf dn dg un ug qn qt (qrec z p1 (tk i) (tv i) qg) tn tk tv ts ef eg ex eF pf pg px pF)) 0 0 A := by
  refine x_ofWv (cc := cX5_queueRecord) (maxL := 5) (by decide) rfl (Nat.le_of_ble_eq_true rfl) ?_
  intro p e s m args below meth c Q hx hb hml hts hown hK hN hP hD hS hret ls hl
  have hl : lv_has ls 5 [(0, .ref (a 0)), (1, .int (nI z)), (2, .int (nI p1)), (3, .int (nI i))] := hl
  have hown : s.vm.findClass RX5 = some m.cls := hown
  have f28 := hts _ (List.mem_cons_of_mem _ tw_210)
  have in_X5 := (fun q hq => List.mem_cons_of_mem _ (inX5 q hq) : ∀ q ∈ wsX50, q ∈ (Cond.code yX5_queueRecord cX5_queueRecord 5 none :: TB))
  have f209 := hN (.fieldLinkNest RX5 209 "SegmentLog$Queue" "images" "LSegmentLog$Blocks;" "SegmentLog") (by decide +kernel)
  have in_X2 := (fun q hq => List.mem_cons_of_mem _ (inX2 q hq) : ∀ q ∈ wsX20, q ∈ (Cond.code yX5_queueRecord cX5_queueRecord 5 none :: TB))
  have f35 := hts _ (List.mem_cons_of_mem _ tw_211)
  have n148 := hN (.methodLinkNest RX5 148 yX3_key "SegmentLog") (by decide +kernel)
  have ini_X3 := hts _ (List.mem_cons_of_mem _ tw_89)
  have im_yX3_key := hts _ (List.mem_cons_of_mem _ tw_321)
  have se_yX3_key := hts _ (List.mem_cons_of_mem _ tw_19)
  have n212 := hN (.methodLinkNest RX5 212 yX0_putNumber "SegmentLog") (by decide +kernel)
  have ini_X0 := hts _ (List.mem_cons_of_mem _ tw_85)
  have im_yX0_putNumber := hts _ (List.mem_cons_of_mem _ tw_308)
  have se_yX0_putNumber := hts _ (List.mem_cons_of_mem _ tw_16)
  have n140 := hN (.methodLinkNest RX5 140 yX3_value "SegmentLog") (by decide +kernel)
  have im_yX3_value := hts _ (List.mem_cons_of_mem _ tw_329)
  have se_yX3_value := hts _ (List.mem_cons_of_mem _ tw_21)
  refine lv_bipush (v := nI 8) hx hb dX5_queueRecord_0 (by decide) ?_
  refine lv_iload_n hx hb dX5_queueRecord_2 rfl (lv_at hl 2 rfl) ?_
  refine lv_bipush (v := nI 16) hx hb dX5_queueRecord_3 (by decide) ?_
  refine x_imul hx hb dX5_queueRecord_5 ?_
  refine x_iadd hx hb dX5_queueRecord_6 ?_
  refine lv_istore (lv' := [(4, .int (nI (8 + (p1 * 16)))), (0, .ref (a 0)), (1, .int (nI z)), (2, .int (nI p1)), (3, .int (nI i))]) hx hb dX5_queueRecord_7 hl (by decide) rfl (fun ls hl => ?_)
  refine lv_aload_n hx hb dX5_queueRecord_9 rfl (lv_at hl 1 rfl) ?_
  refine va_get (D := (dC, dI)) (ci := 5) (v := .ref (a 5)) (C := RX5) (T := TX5) (N := 11) hx hb hts in_X5 hown hK hP 0 rfl rfl 2 (by decide) f28 (fun _ h9 => h9) rfl dX5_queueRecord_10 ?_
  refine va_getN (D := (dC, dI)) (ci := 2) (v := .ref (a 6)) (C := RX2) (T := TX2) (N := 3) hx hb hts in_X2 hown hK hP 5 rfl rfl 0 (by decide) (va_Nw.use (A := args) rfl f209) (fun _ h9 => h9) rfl dX5_queueRecord_13 ?_
  refine lv_iload_n hx hb dX5_queueRecord_16 rfl (lv_at hl 2 rfl) ?_
  refine lv_iload hx hb dX5_queueRecord_17 (lv_at hl 0 rfl) ?_
  refine lv_bipush (v := nI 8) hx hb dX5_queueRecord_19 (by decide) ?_
  refine lv_aload_n hx hb dX5_queueRecord_21 rfl (lv_at hl 1 rfl) ?_
  refine va_get (D := (dC, dI)) (ci := 5) (v := .ref (a 9)) (C := RX5) (T := TX5) (N := 11) hx hb hts in_X5 hown hK hP 0 rfl rfl 3 (by decide) f35 (fun _ h9 => h9) rfl dX5_queueRecord_22 ?_
  refine lv_iload_n hx hb dX5_queueRecord_25 rfl (lv_at hl 4 rfl) ?_
  refine x_calll (va_runVN (As := [.int (nI i)]) (rest := [.int (nI 8), .int (nI (8 + (p1 * 16))), .int (nI z), .ref (a 6)]) ⟨hx, hb, hml, hown, hts⟩ (c_Ta_key (by omega) i (by omega)) ⟨(va_cnB 1 hts (tbG tw_322) rfl rfl rfl n148 ini_X3 (by decide +kernel) ⟨Nat.le_of_ble_eq_true rfl, Nat.le_of_ble_eq_true rfl⟩), im_yX3_key, se_yX3_key⟩ ⟨x_blind, va_recv hK hP (ci := 3) (q0 := 9) rfl rfl, x_pre hK hP hD hN⟩ rfl rfl hl.1 rfl (lv_room (Nat.le_of_ble_eq_true rfl)) dX5_queueRecord_26 ⟨Nat.zero_le _, Nat.zero_le _⟩) hS (fun H locs hP hD hS => ?_)
  have hP : va_P (dC, dI) vwCl (wS a cB cI cL h1 h2 s1 s2 op nx wt sf lf dn dg un ug qn qt qg tn tk tv ts ef eg ex eF pf pg px pF) H := hP
  have hD : va_D A (wS a cB cI cL h1 h2 s1 s2 op nx wt sf lf dn dg un ug qn qt qg tn tk tv ts ef eg ex eF pf pg px pF) := hD
  refine x_callv (va_runVN (As := [.int (nI z), .int (nI (8 + (p1 * 16))), .int (nI 8), .long (tk i)]) (rest := []) ⟨hx, hb, hml, hown, hts⟩ (c_Bl_putLong (show okB (fun qg' => wS a cB cI cL h1 h2 s1 s2 op nx wt sf lf dn dg un ug qn qt qg' tn tk tv ts ef eg ex eF pf pg px pF) 6 7 (a 6) (a 7) cB 64 from ⟨fun _ => rfl, fun _ => rfl, fun _ _ => rfl⟩) (tyS_B cB cI cL) (by omega) qg hqg z (8 + (p1 * 16)) 8 (tk i) (by omega) (by omega)) ⟨(va_cnB 4 hts (tbG tw_309) rfl rfl rfl n212 ini_X0 (by decide +kernel) ⟨Nat.le_of_ble_eq_true rfl, Nat.le_of_ble_eq_true rfl⟩), im_yX0_putNumber, se_yX0_putNumber⟩ ⟨x_blind, va_recv hK hP (ci := 0) (q0 := 6) rfl rfl, x_pre hK hP hD hN⟩ rfl rfl hl.1 rfl (lv_room (Nat.le_of_ble_eq_true rfl)) dX5_queueRecord_29 ⟨Nat.zero_le _, Nat.zero_le _⟩) hS (fun H locs hP hD hS => ?_)
  have hP : va_P (dC, dI) vwCl (wS a cB cI cL h1 h2 s1 s2 op nx wt sf lf dn dg un ug qn qt (pnum 64 z 8 qg (8 + (p1 * 16)) (uL (tk i))) tn tk tv ts ef eg ex eF pf pg px pF) H := hP
  have hD : va_D A (wS a cB cI cL h1 h2 s1 s2 op nx wt sf lf dn dg un ug qn qt (pnum 64 z 8 qg (8 + (p1 * 16)) (uL (tk i))) tn tk tv ts ef eg ex eF pf pg px pF) := hD
  refine lv_aload_n hx hb dX5_queueRecord_32 rfl (lv_at hl 1 rfl) ?_
  refine va_get (D := (dC, dI)) (ci := 5) (v := .ref (a 5)) (C := RX5) (T := TX5) (N := 11) hx hb hts in_X5 hown hK hP 0 rfl rfl 2 (by decide) f28 (fun _ h9 => h9) rfl dX5_queueRecord_33 ?_
  refine va_getN (D := (dC, dI)) (ci := 2) (v := .ref (a 6)) (C := RX2) (T := TX2) (N := 3) hx hb hts in_X2 hown hK hP 5 rfl rfl 0 (by decide) (va_Nw.use (A := args) rfl f209) (fun _ h9 => h9) rfl dX5_queueRecord_36 ?_
  refine lv_iload_n hx hb dX5_queueRecord_39 rfl (lv_at hl 2 rfl) ?_
  refine lv_iload hx hb dX5_queueRecord_40 (lv_at hl 0 rfl) ?_
  refine lv_bipush (v := nI 8) hx hb dX5_queueRecord_42 (by decide) ?_
  refine x_iadd hx hb dX5_queueRecord_44 ?_
  refine lv_bipush (v := nI 8) hx hb dX5_queueRecord_45 (by decide) ?_
  refine lv_aload_n hx hb dX5_queueRecord_47 rfl (lv_at hl 1 rfl) ?_
  refine va_get (D := (dC, dI)) (ci := 5) (v := .ref (a 9)) (C := RX5) (T := TX5) (N := 11) hx hb hts in_X5 hown hK hP 0 rfl rfl 3 (by decide) f35 (fun _ h9 => h9) rfl dX5_queueRecord_48 ?_
  refine lv_iload_n hx hb dX5_queueRecord_51 rfl (lv_at hl 4 rfl) ?_
  refine x_calll (va_runVN (As := [.int (nI i)]) (rest := [.int (nI 8), .int (nI ((8 + (p1 * 16)) + 8)), .int (nI z), .ref (a 6)]) ⟨hx, hb, hml, hown, hts⟩ (c_Ta_value (by omega) i (by omega)) ⟨(va_cnB 1 hts (tbG tw_330) rfl rfl rfl n140 ini_X3 (by decide +kernel) ⟨Nat.le_of_ble_eq_true rfl, Nat.le_of_ble_eq_true rfl⟩), im_yX3_value, se_yX3_value⟩ ⟨x_blind, va_recv hK hP (ci := 3) (q0 := 9) rfl rfl, x_pre hK hP hD hN⟩ rfl rfl hl.1 rfl (lv_room (Nat.le_of_ble_eq_true rfl)) dX5_queueRecord_52 ⟨Nat.zero_le _, Nat.zero_le _⟩) hS (fun H locs hP hD hS => ?_)
  have hP : va_P (dC, dI) vwCl (wS a cB cI cL h1 h2 s1 s2 op nx wt sf lf dn dg un ug qn qt (pnum 64 z 8 qg (8 + (p1 * 16)) (uL (tk i))) tn tk tv ts ef eg ex eF pf pg px pF) H := hP
  have hD : va_D A (wS a cB cI cL h1 h2 s1 s2 op nx wt sf lf dn dg un ug qn qt (pnum 64 z 8 qg (8 + (p1 * 16)) (uL (tk i))) tn tk tv ts ef eg ex eF pf pg px pF) := hD
  refine x_callv (va_runVN (As := [.int (nI z), .int (nI ((8 + (p1 * 16)) + 8)), .int (nI 8), .long (tv i)]) (rest := []) ⟨hx, hb, hml, hown, hts⟩ (c_Bl_putLong (show okB (fun qg' => wS a cB cI cL h1 h2 s1 s2 op nx wt sf lf dn dg un ug qn qt qg' tn tk tv ts ef eg ex eF pf pg px pF) 6 7 (a 6) (a 7) cB 64 from ⟨fun _ => rfl, fun _ => rfl, fun _ _ => rfl⟩) (tyS_B cB cI cL) (by omega) (pnum 64 z 8 qg (8 + (p1 * 16)) (uL (tk i))) (pnum_lt hqg) z ((8 + (p1 * 16)) + 8) 8 (tv i) (by omega) (by omega)) ⟨(va_cnB 4 hts (tbG tw_309) rfl rfl rfl n212 ini_X0 (by decide +kernel) ⟨Nat.le_of_ble_eq_true rfl, Nat.le_of_ble_eq_true rfl⟩), im_yX0_putNumber, se_yX0_putNumber⟩ ⟨x_blind, va_recv hK hP (ci := 0) (q0 := 6) rfl rfl, x_pre hK hP hD hN⟩ rfl rfl hl.1 rfl (lv_room (Nat.le_of_ble_eq_true rfl)) dX5_queueRecord_55 ⟨Nat.zero_le _, Nat.zero_le _⟩) hS (fun H locs hP hD hS => ?_)
  have hP : va_P (dC, dI) vwCl (wS a cB cI cL h1 h2 s1 s2 op nx wt sf lf dn dg un ug qn qt (pnum 64 z 8 (pnum 64 z 8 qg (8 + (p1 * 16)) (uL (tk i))) ((8 + (p1 * 16)) + 8) (uL (tv i))) tn tk tv ts ef eg ex eF pf pg px pF) H := hP
  have hD : va_D A (wS a cB cI cL h1 h2 s1 s2 op nx wt sf lf dn dg un ug qn qt (pnum 64 z 8 (pnum 64 z 8 qg (8 + (p1 * 16)) (uL (tk i))) ((8 + (p1 * 16)) + 8) (uL (tv i))) tn tk tv ts ef eg ex eF pf pg px pF) := hD
  have e1 : (pnum 64 z 8 (pnum 64 z 8 qg (8 + (p1 * 16)) (uL (tk i))) ((8 + (p1 * 16)) + 8) (uL (tv i))) = (qrec z p1 (tk i) (tv i) qg) := by rfl
  have h9 : wS a cB cI cL h1 h2 s1 s2 op nx wt sf lf dn dg un ug qn qt (pnum 64 z 8 (pnum 64 z 8 qg (8 + (p1 * 16)) (uL (tk i))) ((8 + (p1 * 16)) + 8) (uL (tv i))) tn tk tv ts ef eg ex eF pf pg px pF = wS a cB cI cL h1 h2 s1 s2 op nx wt sf lf dn dg un ug qn qt (qrec z p1 (tk i) (tv i) qg) tn tk tv ts ef eg ex eF pf pg px pF := by rw [e1]
  have hP := x_wP h9 hP
  have hD := x_wD h9 hD
  exact hret dX5_queueRecord_58 hP hD hS

set_option maxHeartbeats 4000000 in
set_option maxRecDepth 100000 in
theorem c_SL_readRecord {l : Launch} {dC : Nat → ClassId} {dI : Nat → Nat → Nat} {A : Nat → Prop} {a : Nat → Nat} {cB cI cL : ClassId} {h1 h2 s1 s2 : Nat} {op : Bool} {nx wt sf lf dn : Nat} {dg : Nat → Nat} {un : Nat} {ug : Nat → Nat} {qn : Nat} {qt qg : Nat → Nat} {tn : Nat} {tk tv : Nat → Int64} {ts : Nat → Nat} {ef eg ex : Nat} {eF : Nat → Nat} {pf pg px : Nat} {pF : Nat → Nat} (hdn : dn ≤ 64) (htn : tn ≤ 192) (hdg : ∀ j, dg j < 256) (hs : ∀ j, ts j < 2 ^ 31) (b p1 q : Nat) (hb1 : b < 2 ^ 31) (hp1 : p1 < 2 ^ 20) (hq1 : q < 2 ^ 31) : Met l yX5_readRecord (Cond.code yX5_readRecord cX5_readRecord 5 none :: TB) { frames := 3, cells := 0, slots := 0, locals := 70 } (xPre Nst (dC, dI) A (tyS cB cI cL) (wS a cB cI cL h1 h2 s1 s2 op nx wt sf lf dn dg un ug qn qt qg tn tk tv ts ef eg ex eF pf pg px pF) [.ref (a 0), .int (nI b), .int (nI p1), .int (nI q)]) (xQv (dC, dI) A (wS a cB cI cL h1 h2 s1 s2 op nx wt sf lf dn dg un ug qn qt qg ((rdR dn dg b p1 q (tn, tk, tv, ts)).1) ((rdR dn dg b p1 q (tn, tk, tv, ts)).2.1) ((rdR dn dg b p1 q (tn, tk, tv, ts)).2.2.1) ((rdR dn dg b p1 q (tn, tk, tv, ts)).2.2.2) ef eg ex eF pf pg px pF)) 0 0 A := by
  refine x_ofWv (cc := cX5_readRecord) (maxL := 5) (by decide) rfl (Nat.le_of_ble_eq_true rfl) ?_
  intro p e s m args below meth c Q hx hb hml hts hown hK hN hP hD hS hret ls hl
  have hl : lv_has ls 5 [(0, .ref (a 0)), (1, .int (nI b)), (2, .int (nI p1)), (3, .int (nI q))] := hl
  have hown : s.vm.findClass RX5 = some m.cls := hown
  have w8 : num dn dg b 8 (8 + p1 * 16) < 18446744073709551616 := num_lt hdg 8 _
  have w9 : num dn dg b 8 (8 + p1 * 16 + 8) < 18446744073709551616 := num_lt hdg 8 _
  have f35 := hts _ (List.mem_cons_of_mem _ tw_211)
  have in_X5 := (fun q hq => List.mem_cons_of_mem _ (inX5 q hq) : ∀ q ∈ wsX50, q ∈ (Cond.code yX5_readRecord cX5_readRecord 5 none :: TB))
  have f14 := hts _ (List.mem_cons_of_mem _ tw_208)
  have n258 := hN (.methodLinkNest RX5 258 yX0_number "SegmentLog") (by decide +kernel)
  have ini_X0 := hts _ (List.mem_cons_of_mem _ tw_85)
  have im_yX0_number := hts _ (List.mem_cons_of_mem _ tw_452)
  have se_yX0_number := hts _ (List.mem_cons_of_mem _ tw_42)
  have n73 := hN (.methodLinkNest RX5 73 yX3_insert "SegmentLog") (by decide +kernel)
  have ini_X3 := hts _ (List.mem_cons_of_mem _ tw_89)
  have im_yX3_insert := hts _ (List.mem_cons_of_mem _ tw_290)
  have se_yX3_insert := hts _ (List.mem_cons_of_mem _ tw_12)
  refine lv_bipush (v := nI 8) hx hb dX5_readRecord_0 (by decide) ?_
  refine lv_iload_n hx hb dX5_readRecord_2 rfl (lv_at hl 2 rfl) ?_
  refine lv_bipush (v := nI 16) hx hb dX5_readRecord_3 (by decide) ?_
  refine x_imul hx hb dX5_readRecord_5 ?_
  refine x_iadd hx hb dX5_readRecord_6 ?_
  refine lv_istore (lv' := [(4, .int (nI (8 + (p1 * 16)))), (0, .ref (a 0)), (1, .int (nI b)), (2, .int (nI p1)), (3, .int (nI q))]) hx hb dX5_readRecord_7 hl (by decide) rfl (fun ls hl => ?_)
  refine lv_aload_n hx hb dX5_readRecord_9 rfl (lv_at hl 1 rfl) ?_
  refine va_get (D := (dC, dI)) (ci := 5) (v := .ref (a 9)) (C := RX5) (T := TX5) (N := 11) hx hb hts in_X5 hown hK hP 0 rfl rfl 3 (by decide) f35 (fun _ h9 => h9) rfl dX5_readRecord_10 ?_
  refine lv_aload_n hx hb dX5_readRecord_13 rfl (lv_at hl 1 rfl) ?_
  refine va_get (D := (dC, dI)) (ci := 5) (v := .ref (a 1)) (C := RX5) (T := TX5) (N := 11) hx hb hts in_X5 hown hK hP 0 rfl rfl 0 (by decide) f14 (fun _ h9 => h9) rfl dX5_readRecord_14 ?_
  refine lv_iload_n hx hb dX5_readRecord_17 rfl (lv_at hl 2 rfl) ?_
  refine lv_iload hx hb dX5_readRecord_18 (lv_at hl 0 rfl) ?_
  refine lv_bipush (v := nI 8) hx hb dX5_readRecord_20 (by decide) ?_
  refine x_calll (va_runVN (As := [.int (nI b), .int (nI (8 + (p1 * 16))), .int (nI 8)]) (rest := [.ref (a 9)]) ⟨hx, hb, hml, hown, hts⟩ (c_Bl_number (show okB (fun dg' => wS a cB cI cL h1 h2 s1 s2 op nx wt sf lf dn dg' un ug qn qt qg tn tk tv ts ef eg ex eF pf pg px pF) 1 2 (a 1) (a 2) cB dn from ⟨fun _ => rfl, fun _ => rfl, fun _ _ => rfl⟩) (tyS_B cB cI cL) (by omega) dg hdg b (8 + (p1 * 16)) 8 (by omega) (by omega) (by omega)) ⟨(va_cnB 3 hts (tbG tw_453) rfl rfl rfl n258 ini_X0 (by decide +kernel) ⟨Nat.le_of_ble_eq_true rfl, Nat.le_of_ble_eq_true rfl⟩), im_yX0_number, se_yX0_number⟩ ⟨x_blind, va_recv hK hP (ci := 0) (q0 := 1) rfl rfl, x_pre hK hP hD hN⟩ rfl rfl hl.1 rfl (lv_room (Nat.le_of_ble_eq_true rfl)) dX5_readRecord_22 ⟨Nat.zero_le _, Nat.zero_le _⟩) hS (fun H locs hP hD hS => ?_)
  have hP : va_P (dC, dI) vwCl (wS a cB cI cL h1 h2 s1 s2 op nx wt sf lf dn dg un ug qn qt qg tn tk tv ts ef eg ex eF pf pg px pF) H := hP
  have hD : va_D A (wS a cB cI cL h1 h2 s1 s2 op nx wt sf lf dn dg un ug qn qt qg tn tk tv ts ef eg ex eF pf pg px pF) := hD
  refine lv_aload_n hx hb dX5_readRecord_25 rfl (lv_at hl 1 rfl) ?_
  refine va_get (D := (dC, dI)) (ci := 5) (v := .ref (a 1)) (C := RX5) (T := TX5) (N := 11) hx hb hts in_X5 hown hK hP 0 rfl rfl 0 (by decide) f14 (fun _ h9 => h9) rfl dX5_readRecord_26 ?_
  refine lv_iload_n hx hb dX5_readRecord_29 rfl (lv_at hl 2 rfl) ?_
  refine lv_iload hx hb dX5_readRecord_30 (lv_at hl 0 rfl) ?_
  refine lv_bipush (v := nI 8) hx hb dX5_readRecord_32 (by decide) ?_
  refine x_iadd hx hb dX5_readRecord_34 ?_
  refine lv_bipush (v := nI 8) hx hb dX5_readRecord_35 (by decide) ?_
  refine x_calll (va_runVN (As := [.int (nI b), .int (nI ((8 + (p1 * 16)) + 8)), .int (nI 8)]) (rest := [.long (lN (num dn dg b 8 (8 + (p1 * 16)))), .ref (a 9)]) ⟨hx, hb, hml, hown, hts⟩ (c_Bl_number (show okB (fun dg' => wS a cB cI cL h1 h2 s1 s2 op nx wt sf lf dn dg' un ug qn qt qg tn tk tv ts ef eg ex eF pf pg px pF) 1 2 (a 1) (a 2) cB dn from ⟨fun _ => rfl, fun _ => rfl, fun _ _ => rfl⟩) (tyS_B cB cI cL) (by omega) dg hdg b ((8 + (p1 * 16)) + 8) 8 (by omega) (by omega) (by omega)) ⟨(va_cnB 3 hts (tbG tw_453) rfl rfl rfl n258 ini_X0 (by decide +kernel) ⟨Nat.le_of_ble_eq_true rfl, Nat.le_of_ble_eq_true rfl⟩), im_yX0_number, se_yX0_number⟩ ⟨x_blind, va_recv hK hP (ci := 0) (q0 := 1) rfl rfl, x_pre hK hP hD hN⟩ rfl rfl hl.1 rfl (lv_room (Nat.le_of_ble_eq_true rfl)) dX5_readRecord_37 ⟨Nat.zero_le _, Nat.zero_le _⟩) hS (fun H locs hP hD hS => ?_)
  have hP : va_P (dC, dI) vwCl (wS a cB cI cL h1 h2 s1 s2 op nx wt sf lf dn dg un ug qn qt qg tn tk tv ts ef eg ex eF pf pg px pF) H := hP
  have hD : va_D A (wS a cB cI cL h1 h2 s1 s2 op nx wt sf lf dn dg un ug qn qt qg tn tk tv ts ef eg ex eF pf pg px pF) := hD
  refine lv_iload_n hx hb dX5_readRecord_40 rfl (lv_at hl 4 rfl) ?_
  refine x_callv (va_runVN (As := [.long (lN (num dn dg b 8 (8 + (p1 * 16)))), .long (lN (num dn dg b 8 ((8 + (p1 * 16)) + 8))), .int (nI q)]) (rest := []) ⟨hx, hb, hml, hown, hts⟩ (c_Ta_insert (by omega) hs (lN (num dn dg b 8 (8 + (p1 * 16)))) (lN (num dn dg b 8 ((8 + (p1 * 16)) + 8))) q (by omega)) ⟨(va_cnB 3 hts (tbG tw_291) rfl rfl rfl n73 ini_X3 (by decide +kernel) ⟨Nat.le_of_ble_eq_true rfl, Nat.le_of_ble_eq_true rfl⟩), im_yX3_insert, se_yX3_insert⟩ ⟨x_blind, va_recv hK hP (ci := 3) (q0 := 9) rfl rfl, x_pre hK hP hD hN⟩ rfl rfl hl.1 rfl (lv_room (Nat.le_of_ble_eq_true rfl)) dX5_readRecord_41 ⟨Nat.zero_le _, Nat.zero_le _⟩) hS (fun H locs hP hD hS => ?_)
  have hP : va_P (dC, dI) vwCl (wS a cB cI cL h1 h2 s1 s2 op nx wt sf lf dn dg un ug qn qt qg ((tI (tn, tk, tv, ts) (lN (num dn dg b 8 (8 + (p1 * 16)))) (lN (num dn dg b 8 ((8 + (p1 * 16)) + 8))) q).1) ((tI (tn, tk, tv, ts) (lN (num dn dg b 8 (8 + (p1 * 16)))) (lN (num dn dg b 8 ((8 + (p1 * 16)) + 8))) q).2.1) ((tI (tn, tk, tv, ts) (lN (num dn dg b 8 (8 + (p1 * 16)))) (lN (num dn dg b 8 ((8 + (p1 * 16)) + 8))) q).2.2.1) ((tI (tn, tk, tv, ts) (lN (num dn dg b 8 (8 + (p1 * 16)))) (lN (num dn dg b 8 ((8 + (p1 * 16)) + 8))) q).2.2.2) ef eg ex eF pf pg px pF) H := hP
  have hD : va_D A (wS a cB cI cL h1 h2 s1 s2 op nx wt sf lf dn dg un ug qn qt qg ((tI (tn, tk, tv, ts) (lN (num dn dg b 8 (8 + (p1 * 16)))) (lN (num dn dg b 8 ((8 + (p1 * 16)) + 8))) q).1) ((tI (tn, tk, tv, ts) (lN (num dn dg b 8 (8 + (p1 * 16)))) (lN (num dn dg b 8 ((8 + (p1 * 16)) + 8))) q).2.1) ((tI (tn, tk, tv, ts) (lN (num dn dg b 8 (8 + (p1 * 16)))) (lN (num dn dg b 8 ((8 + (p1 * 16)) + 8))) q).2.2.1) ((tI (tn, tk, tv, ts) (lN (num dn dg b 8 (8 + (p1 * 16)))) (lN (num dn dg b 8 ((8 + (p1 * 16)) + 8))) q).2.2.2) ef eg ex eF pf pg px pF) := hD
  have e1 : ((tI (tn, tk, tv, ts) (lN (num dn dg b 8 (8 + (p1 * 16)))) (lN (num dn dg b 8 ((8 + (p1 * 16)) + 8))) q).1) = ((rdR dn dg b p1 q (tn, tk, tv, ts)).1) := by rfl
  have h9 : wS a cB cI cL h1 h2 s1 s2 op nx wt sf lf dn dg un ug qn qt qg ((tI (tn, tk, tv, ts) (lN (num dn dg b 8 (8 + (p1 * 16)))) (lN (num dn dg b 8 ((8 + (p1 * 16)) + 8))) q).1) ((tI (tn, tk, tv, ts) (lN (num dn dg b 8 (8 + (p1 * 16)))) (lN (num dn dg b 8 ((8 + (p1 * 16)) + 8))) q).2.1) ((tI (tn, tk, tv, ts) (lN (num dn dg b 8 (8 + (p1 * 16)))) (lN (num dn dg b 8 ((8 + (p1 * 16)) + 8))) q).2.2.1) ((tI (tn, tk, tv, ts) (lN (num dn dg b 8 (8 + (p1 * 16)))) (lN (num dn dg b 8 ((8 + (p1 * 16)) + 8))) q).2.2.2) ef eg ex eF pf pg px pF = wS a cB cI cL h1 h2 s1 s2 op nx wt sf lf dn dg un ug qn qt qg ((rdR dn dg b p1 q (tn, tk, tv, ts)).1) ((tI (tn, tk, tv, ts) (lN (num dn dg b 8 (8 + (p1 * 16)))) (lN (num dn dg b 8 ((8 + (p1 * 16)) + 8))) q).2.1) ((tI (tn, tk, tv, ts) (lN (num dn dg b 8 (8 + (p1 * 16)))) (lN (num dn dg b 8 ((8 + (p1 * 16)) + 8))) q).2.2.1) ((tI (tn, tk, tv, ts) (lN (num dn dg b 8 (8 + (p1 * 16)))) (lN (num dn dg b 8 ((8 + (p1 * 16)) + 8))) q).2.2.2) ef eg ex eF pf pg px pF := by rw [e1]
  have hP := x_wP h9 hP
  have hD := x_wD h9 hD
  have e2 : ((tI (tn, tk, tv, ts) (lN (num dn dg b 8 (8 + (p1 * 16)))) (lN (num dn dg b 8 ((8 + (p1 * 16)) + 8))) q).2.1) = ((rdR dn dg b p1 q (tn, tk, tv, ts)).2.1) := by rfl
  have h9 : wS a cB cI cL h1 h2 s1 s2 op nx wt sf lf dn dg un ug qn qt qg ((rdR dn dg b p1 q (tn, tk, tv, ts)).1) ((tI (tn, tk, tv, ts) (lN (num dn dg b 8 (8 + (p1 * 16)))) (lN (num dn dg b 8 ((8 + (p1 * 16)) + 8))) q).2.1) ((tI (tn, tk, tv, ts) (lN (num dn dg b 8 (8 + (p1 * 16)))) (lN (num dn dg b 8 ((8 + (p1 * 16)) + 8))) q).2.2.1) ((tI (tn, tk, tv, ts) (lN (num dn dg b 8 (8 + (p1 * 16)))) (lN (num dn dg b 8 ((8 + (p1 * 16)) + 8))) q).2.2.2) ef eg ex eF pf pg px pF = wS a cB cI cL h1 h2 s1 s2 op nx wt sf lf dn dg un ug qn qt qg ((rdR dn dg b p1 q (tn, tk, tv, ts)).1) ((rdR dn dg b p1 q (tn, tk, tv, ts)).2.1) ((tI (tn, tk, tv, ts) (lN (num dn dg b 8 (8 + (p1 * 16)))) (lN (num dn dg b 8 ((8 + (p1 * 16)) + 8))) q).2.2.1) ((tI (tn, tk, tv, ts) (lN (num dn dg b 8 (8 + (p1 * 16)))) (lN (num dn dg b 8 ((8 + (p1 * 16)) + 8))) q).2.2.2) ef eg ex eF pf pg px pF := by rw [e2]
  have hP := x_wP h9 hP
  have hD := x_wD h9 hD
  have e3 : ((tI (tn, tk, tv, ts) (lN (num dn dg b 8 (8 + (p1 * 16)))) (lN (num dn dg b 8 ((8 + (p1 * 16)) + 8))) q).2.2.1) = ((rdR dn dg b p1 q (tn, tk, tv, ts)).2.2.1) := by rfl
  have h9 : wS a cB cI cL h1 h2 s1 s2 op nx wt sf lf dn dg un ug qn qt qg ((rdR dn dg b p1 q (tn, tk, tv, ts)).1) ((rdR dn dg b p1 q (tn, tk, tv, ts)).2.1) ((tI (tn, tk, tv, ts) (lN (num dn dg b 8 (8 + (p1 * 16)))) (lN (num dn dg b 8 ((8 + (p1 * 16)) + 8))) q).2.2.1) ((tI (tn, tk, tv, ts) (lN (num dn dg b 8 (8 + (p1 * 16)))) (lN (num dn dg b 8 ((8 + (p1 * 16)) + 8))) q).2.2.2) ef eg ex eF pf pg px pF = wS a cB cI cL h1 h2 s1 s2 op nx wt sf lf dn dg un ug qn qt qg ((rdR dn dg b p1 q (tn, tk, tv, ts)).1) ((rdR dn dg b p1 q (tn, tk, tv, ts)).2.1) ((rdR dn dg b p1 q (tn, tk, tv, ts)).2.2.1) ((tI (tn, tk, tv, ts) (lN (num dn dg b 8 (8 + (p1 * 16)))) (lN (num dn dg b 8 ((8 + (p1 * 16)) + 8))) q).2.2.2) ef eg ex eF pf pg px pF := by rw [e3]
  have hP := x_wP h9 hP
  have hD := x_wD h9 hD
  have e4 : ((tI (tn, tk, tv, ts) (lN (num dn dg b 8 (8 + (p1 * 16)))) (lN (num dn dg b 8 ((8 + (p1 * 16)) + 8))) q).2.2.2) = ((rdR dn dg b p1 q (tn, tk, tv, ts)).2.2.2) := by rfl
  have h9 : wS a cB cI cL h1 h2 s1 s2 op nx wt sf lf dn dg un ug qn qt qg ((rdR dn dg b p1 q (tn, tk, tv, ts)).1) ((rdR dn dg b p1 q (tn, tk, tv, ts)).2.1) ((rdR dn dg b p1 q (tn, tk, tv, ts)).2.2.1) ((tI (tn, tk, tv, ts) (lN (num dn dg b 8 (8 + (p1 * 16)))) (lN (num dn dg b 8 ((8 + (p1 * 16)) + 8))) q).2.2.2) ef eg ex eF pf pg px pF = wS a cB cI cL h1 h2 s1 s2 op nx wt sf lf dn dg un ug qn qt qg ((rdR dn dg b p1 q (tn, tk, tv, ts)).1) ((rdR dn dg b p1 q (tn, tk, tv, ts)).2.1) ((rdR dn dg b p1 q (tn, tk, tv, ts)).2.2.1) ((rdR dn dg b p1 q (tn, tk, tv, ts)).2.2.2) ef eg ex eF pf pg px pF := by rw [e4]
  have hP := x_wP h9 hP
  have hD := x_wD h9 hD
  exact hret dX5_readRecord_44 hP hD hS

set_option maxHeartbeats 4000000 in
set_option maxRecDepth 100000 in
theorem c_SL_isFileBlock {l : Launch} {dC : Nat → ClassId} {dI : Nat → Nat → Nat} {A : Nat → Prop} {a : Nat → Nat} {cB cI cL : ClassId} {h1 h2 s1 s2 : Nat} {op : Bool} {nx wt sf lf dn : Nat} {dg : Nat → Nat} {un : Nat} {ug : Nat → Nat} {qn : Nat} {qt qg : Nat → Nat} {tn : Nat} {tk tv : Nat → Int64} {ts : Nat → Nat} {ef eg ex : Nat} {eF : Nat → Nat} {pf pg px : Nat} {pF : Nat → Nat} (hdn : dn ≤ 64) (hdg : ∀ j, dg j < 256) (heF : ∀ j, eF j < 1048576) (hef : ef ≤ 5) (i p1 : Nat) (hi1 : i < 2 ^ 20) (hp1 : p1 < 2 ^ 20) (hr1 : p1 * 3 ≤ hfl ef eF i 3) : Met l yX5_isFileBlock (Cond.code yX5_isFileBlock cX5_isFileBlock 4 (some .boolean) :: TB) { frames := 4, cells := 0, slots := 0, locals := 92 } (xPre Nst (dC, dI) A (tyS cB cI cL) (wS a cB cI cL h1 h2 s1 s2 op nx wt sf lf dn dg un ug qn qt qg tn tk tv ts ef eg ex eF pf pg px pF) [.ref (a 0), .int (nI i), .int (nI p1)]) (xQi (dC, dI) A (bI (ifb dn dg ef eF i p1)) (wS a cB cI cL h1 h2 s1 s2 op nx wt sf lf dn dg un ug qn qt qg tn tk tv ts ef eg ex eF pf pg px pF)) 0 0 A := by
  refine x_ofWz (cc := cX5_isFileBlock) (maxL := 4) (by decide) rfl (Nat.le_of_ble_eq_true rfl) (x_narZ _) ?_
  intro p e s m args below meth c Q hx hb hml hts hown hK hN hP hD hS hret ls hl
  have hl : lv_has ls 4 [(0, .ref (a 0)), (1, .int (nI i)), (2, .int (nI p1))] := hl
  have hown : s.vm.findClass RX5 = some m.cls := hown
  have w2 := num2_lt (n := dn) (b := hfl ef eF i 1 + p1) hdg 2
  have w4 := num2_lt (n := dn) (b := hfl ef eF i 1 + p1) hdg 4
  have w6 := num2_lt (n := dn) (b := hfl ef eF i 1 + p1) hdg 6
  have f42 := hts _ (List.mem_cons_of_mem _ tw_212)
  have in_X5 := (fun q hq => List.mem_cons_of_mem _ (inX5 q hq) : ∀ q ∈ wsX50, q ∈ (Cond.code yX5_isFileBlock cX5_isFileBlock 4 (some .boolean) :: TB))
  have n157 := hN (.methodLinkNest RX5 157 yX1_field "SegmentLog") (by decide +kernel)
  have ini_X1 := hts _ (List.mem_cons_of_mem _ tw_90)
  have im_yX1_field := hts _ (List.mem_cons_of_mem _ tw_387)
  have se_yX1_field := hts _ (List.mem_cons_of_mem _ tw_30)
  have f14 := hts _ (List.mem_cons_of_mem _ tw_208)
  have n177 := hN (.methodLinkNest RX5 177 yX0_isWhole "SegmentLog") (by decide +kernel)
  have ini_X0 := hts _ (List.mem_cons_of_mem _ tw_85)
  have im_yX0_isWhole := hts _ (List.mem_cons_of_mem _ tw_448)
  have se_yX0_isWhole := hts _ (List.mem_cons_of_mem _ tw_41)
  have n167 := hN (.methodLinkNest RX5 167 yX0_value "SegmentLog") (by decide +kernel)
  have im_yX0_value := hts _ (List.mem_cons_of_mem _ tw_345)
  have se_yX0_value := hts _ (List.mem_cons_of_mem _ tw_25)
  have n258 := hN (.methodLinkNest RX5 258 yX0_number "SegmentLog") (by decide +kernel)
  have im_yX0_number := hts _ (List.mem_cons_of_mem _ tw_452)
  have se_yX0_number := hts _ (List.mem_cons_of_mem _ tw_42)
  refine lv_aload_n hx hb dX5_isFileBlock_0 rfl (lv_at hl 0 rfl) ?_
  refine va_get (D := (dC, dI)) (ci := 5) (v := .ref h1) (C := RX5) (T := TX5) (N := 11) hx hb hts in_X5 hown hK hP 0 rfl rfl 4 (by decide) f42 (fun _ h9 => h9) rfl dX5_isFileBlock_1 ?_
  refine lv_iload_n hx hb dX5_isFileBlock_4 rfl (lv_at hl 1 rfl) ?_
  refine lv_iconst (v := nI 1) hx hb dX5_isFileBlock_5 (by decide) ?_
  refine x_calli (va_runVN (As := [.int (nI i), .int (nI 1)]) (rest := []) ⟨hx, hb, hml, hown, hts⟩ (c_He_field (show okH (fun ef' eg' ex' eF' => wS a cB cI cL h1 h2 s1 s2 op nx wt sf lf dn dg un ug qn qt qg tn tk tv ts ef' eg' ex' eF' pf pg px pF) 13 14 h1 h2 cI from ⟨fun _ _ _ _ => rfl, fun _ _ _ _ => rfl, fun _ _ _ _ _ _ _ => rfl, fun _ _ _ _ _ => rfl⟩) (tyS_I cB cI cL) ef eg ex eF i 1 (by omega) (by omega) (by omega)) ⟨(va_cnB 2 hts (tbG tw_388) rfl rfl rfl n157 ini_X1 (by decide +kernel) ⟨Nat.le_of_ble_eq_true rfl, Nat.le_of_ble_eq_true rfl⟩), im_yX1_field, se_yX1_field⟩ ⟨x_blind, va_recv hK hP (ci := 1) (q0 := 13) rfl rfl, x_pre hK hP hD hN⟩ rfl rfl hl.1 rfl (lv_room (Nat.le_of_ble_eq_true rfl)) dX5_isFileBlock_6 ⟨Nat.zero_le _, Nat.zero_le _⟩) hS (fun H locs hP hD hS => ?_)
  have hP : va_P (dC, dI) vwCl (wS a cB cI cL h1 h2 s1 s2 op nx wt sf lf dn dg un ug qn qt qg tn tk tv ts ef eg ex eF pf pg px pF) H := hP
  have hD : va_D A (wS a cB cI cL h1 h2 s1 s2 op nx wt sf lf dn dg un ug qn qt qg tn tk tv ts ef eg ex eF pf pg px pF) := hD
  have hv6 : hfl ef eF i 1 < 1048576 := hfl_lt heF
  refine lv_iload_n hx hb dX5_isFileBlock_9 rfl (lv_at hl 2 rfl) ?_
  refine x_iadd hx hb dX5_isFileBlock_10 ?_
  refine lv_istore_n (lv' := [(3, .int (nI ((hfl ef eF i 1) + p1))), (0, .ref (a 0)), (1, .int (nI i)), (2, .int (nI p1))]) hx hb dX5_isFileBlock_11 rfl hl (by decide) rfl (fun ls hl => ?_)
  refine lv_aload_n hx hb dX5_isFileBlock_12 rfl (lv_at hl 1 rfl) ?_
  refine va_get (D := (dC, dI)) (ci := 5) (v := .ref (a 1)) (C := RX5) (T := TX5) (N := 11) hx hb hts in_X5 hown hK hP 0 rfl rfl 0 (by decide) f14 (fun _ h9 => h9) rfl dX5_isFileBlock_13 ?_
  refine lv_iload_n hx hb dX5_isFileBlock_16 rfl (lv_at hl 0 rfl) ?_
  refine x_calli (va_runVN (As := [.int (nI ((hfl ef eF i 1) + p1))]) (rest := []) ⟨hx, hb, hml, hown, hts⟩ (c_Bl_isWhole (show okB (fun dg' => wS a cB cI cL h1 h2 s1 s2 op nx wt sf lf dn dg' un ug qn qt qg tn tk tv ts ef eg ex eF pf pg px pF) 1 2 (a 1) (a 2) cB dn from ⟨fun _ => rfl, fun _ => rfl, fun _ _ => rfl⟩) (tyS_B cB cI cL) (by omega) dg hdg ((hfl ef eF i 1) + p1) (by omega)) ⟨(va_cnB 1 hts (tbG tw_449) rfl rfl rfl n177 ini_X0 (by decide +kernel) ⟨Nat.le_of_ble_eq_true rfl, Nat.le_of_ble_eq_true rfl⟩), im_yX0_isWhole, se_yX0_isWhole⟩ ⟨x_blind, va_recv hK hP (ci := 0) (q0 := 1) rfl rfl, x_pre hK hP hD hN⟩ rfl rfl hl.1 rfl (lv_room (Nat.le_of_ble_eq_true rfl)) dX5_isFileBlock_17 ⟨Nat.zero_le _, Nat.zero_le _⟩) hS (fun H locs hP hD hS => ?_)
  have hP : va_P (dC, dI) vwCl (wS a cB cI cL h1 h2 s1 s2 op nx wt sf lf dn dg un ug qn qt qg tn tk tv ts ef eg ex eF pf pg px pF) H := hP
  have hD : va_D A (wS a cB cI cL h1 h2 s1 s2 op nx wt sf lf dn dg un ug qn qt qg tn tk tv ts ef eg ex eF pf pg px pF) := hD
  refine x_if_eq_b (tgt := 130) hx hb dX5_isFileBlock_20 (by decide) (fun c20 => ?_) (fun c20 => ?_)
  · refine lv_iconst (v := nI 0) hx hb dX5_isFileBlock_130 (by decide) ?_
    exact hret dX5_isFileBlock_131 (by first | exact ifb_t ⟨c20, c33, c58, lN_inj (by omega) (by omega) c82, lN_inj (by omega) (by omega) c98, lN_inj (by omega) (by omega) c123⟩ | exact ifb_f (fun q => absurd (c20.symm.trans q.1) (by decide)) | exact ifb_f (fun q => c33 q.2.1) | exact ifb_f (fun q => c58 q.2.2.1) | exact ifb_f (fun q => c82 (by rw [q.2.2.2.1])) | exact ifb_f (fun q => c98 (by rw [q.2.2.2.2.1])) | exact ifb_f (fun q => c123 (by rw [q.2.2.2.2.2]))) hP hD hS
  · refine lv_aload_n hx hb dX5_isFileBlock_23 rfl (lv_at hl 1 rfl) ?_
    refine va_get (D := (dC, dI)) (ci := 5) (v := .ref (a 1)) (C := RX5) (T := TX5) (N := 11) hx hb hts in_X5 hown hK hP 0 rfl rfl 0 (by decide) f14 (fun _ h9 => h9) rfl dX5_isFileBlock_24 ?_
    refine lv_iload_n hx hb dX5_isFileBlock_27 rfl (lv_at hl 0 rfl) ?_
    refine lv_iconst (v := nI 0) hx hb dX5_isFileBlock_28 (by decide) ?_
    refine x_calli (va_runVN (As := [.int (nI ((hfl ef eF i 1) + p1)), .int (nI 0)]) (rest := []) ⟨hx, hb, hml, hown, hts⟩ (c_Bl_value (show okB (fun dg' => wS a cB cI cL h1 h2 s1 s2 op nx wt sf lf dn dg' un ug qn qt qg tn tk tv ts ef eg ex eF pf pg px pF) 1 2 (a 1) (a 2) cB dn from ⟨fun _ => rfl, fun _ => rfl, fun _ _ => rfl⟩) (tyS_B cB cI cL) (by omega) dg hdg ((hfl ef eF i 1) + p1) 0 (by omega) (by omega)) ⟨(va_cnB 2 hts (tbG tw_346) rfl rfl rfl n167 ini_X0 (by decide +kernel) ⟨Nat.le_of_ble_eq_true rfl, Nat.le_of_ble_eq_true rfl⟩), im_yX0_value, se_yX0_value⟩ ⟨x_blind, va_recv hK hP (ci := 0) (q0 := 1) rfl rfl, x_pre hK hP hD hN⟩ rfl rfl hl.1 rfl (lv_room (Nat.le_of_ble_eq_true rfl)) dX5_isFileBlock_29 ⟨Nat.zero_le _, Nat.zero_le _⟩) hS (fun H locs hP hD hS => ?_)
    have hP : va_P (dC, dI) vwCl (wS a cB cI cL h1 h2 s1 s2 op nx wt sf lf dn dg un ug qn qt qg tn tk tv ts ef eg ex eF pf pg px pF) H := hP
    have hD : va_D A (wS a cB cI cL h1 h2 s1 s2 op nx wt sf lf dn dg un ug qn qt qg tn tk tv ts ef eg ex eF pf pg px pF) := hD
    have hv29 : bv dn dg ((hfl ef eF i 1) + p1) 0 < 256 := bv_lt hdg
    refine lv_iconst (v := nI 2) hx hb dX5_isFileBlock_32 (by decide) ?_
    refine x_icmp_ne (tgt := 130) hx hb dX5_isFileBlock_33 (by decide) (by omega) (by omega) (fun c33 => ?_) (fun c33 => ?_)
    · refine lv_iconst (v := nI 0) hx hb dX5_isFileBlock_130 (by decide) ?_
      exact hret dX5_isFileBlock_131 (by first | exact ifb_t ⟨c20, c33, c58, lN_inj (by omega) (by omega) c82, lN_inj (by omega) (by omega) c98, lN_inj (by omega) (by omega) c123⟩ | exact ifb_f (fun q => absurd (c20.symm.trans q.1) (by decide)) | exact ifb_f (fun q => c33 q.2.1) | exact ifb_f (fun q => c58 q.2.2.1) | exact ifb_f (fun q => c82 (by rw [q.2.2.2.1])) | exact ifb_f (fun q => c98 (by rw [q.2.2.2.2.1])) | exact ifb_f (fun q => c123 (by rw [q.2.2.2.2.2]))) hP hD hS
    · refine lv_aload_n hx hb dX5_isFileBlock_36 rfl (lv_at hl 1 rfl) ?_
      refine va_get (D := (dC, dI)) (ci := 5) (v := .ref (a 1)) (C := RX5) (T := TX5) (N := 11) hx hb hts in_X5 hown hK hP 0 rfl rfl 0 (by decide) f14 (fun _ h9 => h9) rfl dX5_isFileBlock_37 ?_
      refine lv_iload_n hx hb dX5_isFileBlock_40 rfl (lv_at hl 0 rfl) ?_
      refine lv_iconst (v := nI 1) hx hb dX5_isFileBlock_41 (by decide) ?_
      refine x_calli (va_runVN (As := [.int (nI ((hfl ef eF i 1) + p1)), .int (nI 1)]) (rest := []) ⟨hx, hb, hml, hown, hts⟩ (c_Bl_value (show okB (fun dg' => wS a cB cI cL h1 h2 s1 s2 op nx wt sf lf dn dg' un ug qn qt qg tn tk tv ts ef eg ex eF pf pg px pF) 1 2 (a 1) (a 2) cB dn from ⟨fun _ => rfl, fun _ => rfl, fun _ _ => rfl⟩) (tyS_B cB cI cL) (by omega) dg hdg ((hfl ef eF i 1) + p1) 1 (by omega) (by omega)) ⟨(va_cnB 2 hts (tbG tw_346) rfl rfl rfl n167 ini_X0 (by decide +kernel) ⟨Nat.le_of_ble_eq_true rfl, Nat.le_of_ble_eq_true rfl⟩), im_yX0_value, se_yX0_value⟩ ⟨x_blind, va_recv hK hP (ci := 0) (q0 := 1) rfl rfl, x_pre hK hP hD hN⟩ rfl rfl hl.1 rfl (lv_room (Nat.le_of_ble_eq_true rfl)) dX5_isFileBlock_42 ⟨Nat.zero_le _, Nat.zero_le _⟩) hS (fun H locs hP hD hS => ?_)
      have hP : va_P (dC, dI) vwCl (wS a cB cI cL h1 h2 s1 s2 op nx wt sf lf dn dg un ug qn qt qg tn tk tv ts ef eg ex eF pf pg px pF) H := hP
      have hD : va_D A (wS a cB cI cL h1 h2 s1 s2 op nx wt sf lf dn dg un ug qn qt qg tn tk tv ts ef eg ex eF pf pg px pF) := hD
      have hv42 : bv dn dg ((hfl ef eF i 1) + p1) 1 < 256 := bv_lt hdg
      refine lv_iload_n hx hb dX5_isFileBlock_45 rfl (lv_at hl 3 rfl) ?_
      refine lv_aload_n hx hb dX5_isFileBlock_46 rfl (lv_at hl 1 rfl) ?_
      refine va_get (D := (dC, dI)) (ci := 5) (v := .ref h1) (C := RX5) (T := TX5) (N := 11) hx hb hts in_X5 hown hK hP 0 rfl rfl 4 (by decide) f42 (fun _ h9 => h9) rfl dX5_isFileBlock_47 ?_
      refine lv_iload_n hx hb dX5_isFileBlock_50 rfl (lv_at hl 2 rfl) ?_
      refine lv_iconst (v := nI 3) hx hb dX5_isFileBlock_51 (by decide) ?_
      refine x_calli (va_runVN (As := [.int (nI i), .int (nI 3)]) (rest := [.int (nI p1), .int (nI (bv dn dg ((hfl ef eF i 1) + p1) 1))]) ⟨hx, hb, hml, hown, hts⟩ (c_He_field (show okH (fun ef' eg' ex' eF' => wS a cB cI cL h1 h2 s1 s2 op nx wt sf lf dn dg un ug qn qt qg tn tk tv ts ef' eg' ex' eF' pf pg px pF) 13 14 h1 h2 cI from ⟨fun _ _ _ _ => rfl, fun _ _ _ _ => rfl, fun _ _ _ _ _ _ _ => rfl, fun _ _ _ _ _ => rfl⟩) (tyS_I cB cI cL) ef eg ex eF i 3 (by omega) (by omega) (by omega)) ⟨(va_cnB 2 hts (tbG tw_388) rfl rfl rfl n157 ini_X1 (by decide +kernel) ⟨Nat.le_of_ble_eq_true rfl, Nat.le_of_ble_eq_true rfl⟩), im_yX1_field, se_yX1_field⟩ ⟨x_blind, va_recv hK hP (ci := 1) (q0 := 13) rfl rfl, x_pre hK hP hD hN⟩ rfl rfl hl.1 rfl (lv_room (Nat.le_of_ble_eq_true rfl)) dX5_isFileBlock_52 ⟨Nat.zero_le _, Nat.zero_le _⟩) hS (fun H locs hP hD hS => ?_)
      have hP : va_P (dC, dI) vwCl (wS a cB cI cL h1 h2 s1 s2 op nx wt sf lf dn dg un ug qn qt qg tn tk tv ts ef eg ex eF pf pg px pF) H := hP
      have hD : va_D A (wS a cB cI cL h1 h2 s1 s2 op nx wt sf lf dn dg un ug qn qt qg tn tk tv ts ef eg ex eF pf pg px pF) := hD
      have hv52 : hfl ef eF i 3 < 1048576 := hfl_lt heF
      refine x_calli (va_runS (As := [.int (nI p1), .int (nI (hfl ef eF i 3))]) (rest := [.int (nI (bv dn dg ((hfl ef eF i 1) + p1) 1))]) ⟨hx, hb, hml, hown, hts⟩ (c_SL_recordsAt p1 (hfl ef eF i 3) (by omega) (by omega)) (va_cwS 2 hts (tbS tw_399 tw_400 tw_84 tw_401) rfl rfl rfl (by decide +kernel) ⟨Nat.le_of_ble_eq_true rfl, Nat.le_of_ble_eq_true rfl⟩) ⟨x_blind, x_pre hK hP hD hN⟩ rfl rfl hl.1 rfl (lv_room (Nat.le_of_ble_eq_true rfl)) dX5_isFileBlock_55 ⟨Nat.zero_le _, Nat.zero_le _⟩) hS (fun H locs hP hD hS => ?_)
      have hP : va_P (dC, dI) vwCl (wS a cB cI cL h1 h2 s1 s2 op nx wt sf lf dn dg un ug qn qt qg tn tk tv ts ef eg ex eF pf pg px pF) H := hP
      have hD : va_D A (wS a cB cI cL h1 h2 s1 s2 op nx wt sf lf dn dg un ug qn qt qg tn tk tv ts ef eg ex eF pf pg px pF) := hD
      refine x_icmp_ne (tgt := 130) hx hb dX5_isFileBlock_58 (by decide) (by omega) (by omega) (fun c58 => ?_) (fun c58 => ?_)
      · refine lv_iconst (v := nI 0) hx hb dX5_isFileBlock_130 (by decide) ?_
        exact hret dX5_isFileBlock_131 (by first | exact ifb_t ⟨c20, c33, c58, lN_inj (by omega) (by omega) c82, lN_inj (by omega) (by omega) c98, lN_inj (by omega) (by omega) c123⟩ | exact ifb_f (fun q => absurd (c20.symm.trans q.1) (by decide)) | exact ifb_f (fun q => c33 q.2.1) | exact ifb_f (fun q => c58 q.2.2.1) | exact ifb_f (fun q => c82 (by rw [q.2.2.2.1])) | exact ifb_f (fun q => c98 (by rw [q.2.2.2.2.1])) | exact ifb_f (fun q => c123 (by rw [q.2.2.2.2.2]))) hP hD hS
      · refine lv_aload_n hx hb dX5_isFileBlock_61 rfl (lv_at hl 1 rfl) ?_
        refine va_get (D := (dC, dI)) (ci := 5) (v := .ref (a 1)) (C := RX5) (T := TX5) (N := 11) hx hb hts in_X5 hown hK hP 0 rfl rfl 0 (by decide) f14 (fun _ h9 => h9) rfl dX5_isFileBlock_62 ?_
        refine lv_iload_n hx hb dX5_isFileBlock_65 rfl (lv_at hl 0 rfl) ?_
        refine lv_iconst (v := nI 2) hx hb dX5_isFileBlock_66 (by decide) ?_
        refine lv_iconst (v := nI 2) hx hb dX5_isFileBlock_67 (by decide) ?_
        refine x_calll (va_runVN (As := [.int (nI ((hfl ef eF i 1) + p1)), .int (nI 2), .int (nI 2)]) (rest := []) ⟨hx, hb, hml, hown, hts⟩ (c_Bl_number (show okB (fun dg' => wS a cB cI cL h1 h2 s1 s2 op nx wt sf lf dn dg' un ug qn qt qg tn tk tv ts ef eg ex eF pf pg px pF) 1 2 (a 1) (a 2) cB dn from ⟨fun _ => rfl, fun _ => rfl, fun _ _ => rfl⟩) (tyS_B cB cI cL) (by omega) dg hdg ((hfl ef eF i 1) + p1) 2 2 (by omega) (by omega) (by omega)) ⟨(va_cnB 3 hts (tbG tw_453) rfl rfl rfl n258 ini_X0 (by decide +kernel) ⟨Nat.le_of_ble_eq_true rfl, Nat.le_of_ble_eq_true rfl⟩), im_yX0_number, se_yX0_number⟩ ⟨x_blind, va_recv hK hP (ci := 0) (q0 := 1) rfl rfl, x_pre hK hP hD hN⟩ rfl rfl hl.1 rfl (lv_room (Nat.le_of_ble_eq_true rfl)) dX5_isFileBlock_68 ⟨Nat.zero_le _, Nat.zero_le _⟩) hS (fun H locs hP hD hS => ?_)
        have hP : va_P (dC, dI) vwCl (wS a cB cI cL h1 h2 s1 s2 op nx wt sf lf dn dg un ug qn qt qg tn tk tv ts ef eg ex eF pf pg px pF) H := hP
        have hD : va_D A (wS a cB cI cL h1 h2 s1 s2 op nx wt sf lf dn dg un ug qn qt qg tn tk tv ts ef eg ex eF pf pg px pF) := hD
        refine lv_aload_n hx hb dX5_isFileBlock_71 rfl (lv_at hl 1 rfl) ?_
        refine va_get (D := (dC, dI)) (ci := 5) (v := .ref h1) (C := RX5) (T := TX5) (N := 11) hx hb hts in_X5 hown hK hP 0 rfl rfl 4 (by decide) f42 (fun _ h9 => h9) rfl dX5_isFileBlock_72 ?_
        refine lv_iload_n hx hb dX5_isFileBlock_75 rfl (lv_at hl 2 rfl) ?_
        refine lv_iconst (v := nI 0) hx hb dX5_isFileBlock_76 (by decide) ?_
        refine x_calli (va_runVN (As := [.int (nI i), .int (nI 0)]) (rest := [.long (lN (num dn dg ((hfl ef eF i 1) + p1) 2 2))]) ⟨hx, hb, hml, hown, hts⟩ (c_He_field (show okH (fun ef' eg' ex' eF' => wS a cB cI cL h1 h2 s1 s2 op nx wt sf lf dn dg un ug qn qt qg tn tk tv ts ef' eg' ex' eF' pf pg px pF) 13 14 h1 h2 cI from ⟨fun _ _ _ _ => rfl, fun _ _ _ _ => rfl, fun _ _ _ _ _ _ _ => rfl, fun _ _ _ _ _ => rfl⟩) (tyS_I cB cI cL) ef eg ex eF i 0 (by omega) (by omega) (by omega)) ⟨(va_cnB 2 hts (tbG tw_388) rfl rfl rfl n157 ini_X1 (by decide +kernel) ⟨Nat.le_of_ble_eq_true rfl, Nat.le_of_ble_eq_true rfl⟩), im_yX1_field, se_yX1_field⟩ ⟨x_blind, va_recv hK hP (ci := 1) (q0 := 13) rfl rfl, x_pre hK hP hD hN⟩ rfl rfl hl.1 rfl (lv_room (Nat.le_of_ble_eq_true rfl)) dX5_isFileBlock_77 ⟨Nat.zero_le _, Nat.zero_le _⟩) hS (fun H locs hP hD hS => ?_)
        have hP : va_P (dC, dI) vwCl (wS a cB cI cL h1 h2 s1 s2 op nx wt sf lf dn dg un ug qn qt qg tn tk tv ts ef eg ex eF pf pg px pF) H := hP
        have hD : va_D A (wS a cB cI cL h1 h2 s1 s2 op nx wt sf lf dn dg un ug qn qt qg tn tk tv ts ef eg ex eF pf pg px pF) := hD
        have hv77 : hfl ef eF i 0 < 1048576 := hfl_lt heF
        refine lv_i2l (v := lN (hfl ef eF i 0)) hx hb dX5_isFileBlock_80 (nI_l (by omega)) ?_
        refine W.lcmp hx hb dX5_isFileBlock_81 ?_
        refine x_lif_ne (tgt := 130) hx hb dX5_isFileBlock_82 (by decide) (fun c82 => ?_) (fun c82 => ?_)
        · refine lv_iconst (v := nI 0) hx hb dX5_isFileBlock_130 (by decide) ?_
          exact hret dX5_isFileBlock_131 (by first | exact ifb_t ⟨c20, c33, c58, lN_inj (by omega) (by omega) c82, lN_inj (by omega) (by omega) c98, lN_inj (by omega) (by omega) c123⟩ | exact ifb_f (fun q => absurd (c20.symm.trans q.1) (by decide)) | exact ifb_f (fun q => c33 q.2.1) | exact ifb_f (fun q => c58 q.2.2.1) | exact ifb_f (fun q => c82 (by rw [q.2.2.2.1])) | exact ifb_f (fun q => c98 (by rw [q.2.2.2.2.1])) | exact ifb_f (fun q => c123 (by rw [q.2.2.2.2.2]))) hP hD hS
        · refine lv_aload_n hx hb dX5_isFileBlock_85 rfl (lv_at hl 1 rfl) ?_
          refine va_get (D := (dC, dI)) (ci := 5) (v := .ref (a 1)) (C := RX5) (T := TX5) (N := 11) hx hb hts in_X5 hown hK hP 0 rfl rfl 0 (by decide) f14 (fun _ h9 => h9) rfl dX5_isFileBlock_86 ?_
          refine lv_iload_n hx hb dX5_isFileBlock_89 rfl (lv_at hl 0 rfl) ?_
          refine lv_iconst (v := nI 4) hx hb dX5_isFileBlock_90 (by decide) ?_
          refine lv_iconst (v := nI 2) hx hb dX5_isFileBlock_91 (by decide) ?_
          refine x_calll (va_runVN (As := [.int (nI ((hfl ef eF i 1) + p1)), .int (nI 4), .int (nI 2)]) (rest := []) ⟨hx, hb, hml, hown, hts⟩ (c_Bl_number (show okB (fun dg' => wS a cB cI cL h1 h2 s1 s2 op nx wt sf lf dn dg' un ug qn qt qg tn tk tv ts ef eg ex eF pf pg px pF) 1 2 (a 1) (a 2) cB dn from ⟨fun _ => rfl, fun _ => rfl, fun _ _ => rfl⟩) (tyS_B cB cI cL) (by omega) dg hdg ((hfl ef eF i 1) + p1) 4 2 (by omega) (by omega) (by omega)) ⟨(va_cnB 3 hts (tbG tw_453) rfl rfl rfl n258 ini_X0 (by decide +kernel) ⟨Nat.le_of_ble_eq_true rfl, Nat.le_of_ble_eq_true rfl⟩), im_yX0_number, se_yX0_number⟩ ⟨x_blind, va_recv hK hP (ci := 0) (q0 := 1) rfl rfl, x_pre hK hP hD hN⟩ rfl rfl hl.1 rfl (lv_room (Nat.le_of_ble_eq_true rfl)) dX5_isFileBlock_92 ⟨Nat.zero_le _, Nat.zero_le _⟩) hS (fun H locs hP hD hS => ?_)
          have hP : va_P (dC, dI) vwCl (wS a cB cI cL h1 h2 s1 s2 op nx wt sf lf dn dg un ug qn qt qg tn tk tv ts ef eg ex eF pf pg px pF) H := hP
          have hD : va_D A (wS a cB cI cL h1 h2 s1 s2 op nx wt sf lf dn dg un ug qn qt qg tn tk tv ts ef eg ex eF pf pg px pF) := hD
          refine lv_iload_n hx hb dX5_isFileBlock_95 rfl (lv_at hl 3 rfl) ?_
          refine lv_i2l (v := lN p1) hx hb dX5_isFileBlock_96 (nI_l (by omega)) ?_
          refine W.lcmp hx hb dX5_isFileBlock_97 ?_
          refine x_lif_ne (tgt := 130) hx hb dX5_isFileBlock_98 (by decide) (fun c98 => ?_) (fun c98 => ?_)
          · refine lv_iconst (v := nI 0) hx hb dX5_isFileBlock_130 (by decide) ?_
            exact hret dX5_isFileBlock_131 (by first | exact ifb_t ⟨c20, c33, c58, lN_inj (by omega) (by omega) c82, lN_inj (by omega) (by omega) c98, lN_inj (by omega) (by omega) c123⟩ | exact ifb_f (fun q => absurd (c20.symm.trans q.1) (by decide)) | exact ifb_f (fun q => c33 q.2.1) | exact ifb_f (fun q => c58 q.2.2.1) | exact ifb_f (fun q => c82 (by rw [q.2.2.2.1])) | exact ifb_f (fun q => c98 (by rw [q.2.2.2.2.1])) | exact ifb_f (fun q => c123 (by rw [q.2.2.2.2.2]))) hP hD hS
          · refine lv_aload_n hx hb dX5_isFileBlock_101 rfl (lv_at hl 1 rfl) ?_
            refine va_get (D := (dC, dI)) (ci := 5) (v := .ref (a 1)) (C := RX5) (T := TX5) (N := 11) hx hb hts in_X5 hown hK hP 0 rfl rfl 0 (by decide) f14 (fun _ h9 => h9) rfl dX5_isFileBlock_102 ?_
            refine lv_iload_n hx hb dX5_isFileBlock_105 rfl (lv_at hl 0 rfl) ?_
            refine lv_bipush (v := nI 6) hx hb dX5_isFileBlock_106 (by decide) ?_
            refine lv_iconst (v := nI 2) hx hb dX5_isFileBlock_108 (by decide) ?_
            refine x_calll (va_runVN (As := [.int (nI ((hfl ef eF i 1) + p1)), .int (nI 6), .int (nI 2)]) (rest := []) ⟨hx, hb, hml, hown, hts⟩ (c_Bl_number (show okB (fun dg' => wS a cB cI cL h1 h2 s1 s2 op nx wt sf lf dn dg' un ug qn qt qg tn tk tv ts ef eg ex eF pf pg px pF) 1 2 (a 1) (a 2) cB dn from ⟨fun _ => rfl, fun _ => rfl, fun _ _ => rfl⟩) (tyS_B cB cI cL) (by omega) dg hdg ((hfl ef eF i 1) + p1) 6 2 (by omega) (by omega) (by omega)) ⟨(va_cnB 3 hts (tbG tw_453) rfl rfl rfl n258 ini_X0 (by decide +kernel) ⟨Nat.le_of_ble_eq_true rfl, Nat.le_of_ble_eq_true rfl⟩), im_yX0_number, se_yX0_number⟩ ⟨x_blind, va_recv hK hP (ci := 0) (q0 := 1) rfl rfl, x_pre hK hP hD hN⟩ rfl rfl hl.1 rfl (lv_room (Nat.le_of_ble_eq_true rfl)) dX5_isFileBlock_109 ⟨Nat.zero_le _, Nat.zero_le _⟩) hS (fun H locs hP hD hS => ?_)
            have hP : va_P (dC, dI) vwCl (wS a cB cI cL h1 h2 s1 s2 op nx wt sf lf dn dg un ug qn qt qg tn tk tv ts ef eg ex eF pf pg px pF) H := hP
            have hD : va_D A (wS a cB cI cL h1 h2 s1 s2 op nx wt sf lf dn dg un ug qn qt qg tn tk tv ts ef eg ex eF pf pg px pF) := hD
            refine lv_aload_n hx hb dX5_isFileBlock_112 rfl (lv_at hl 1 rfl) ?_
            refine va_get (D := (dC, dI)) (ci := 5) (v := .ref h1) (C := RX5) (T := TX5) (N := 11) hx hb hts in_X5 hown hK hP 0 rfl rfl 4 (by decide) f42 (fun _ h9 => h9) rfl dX5_isFileBlock_113 ?_
            refine lv_iload_n hx hb dX5_isFileBlock_116 rfl (lv_at hl 2 rfl) ?_
            refine lv_iconst (v := nI 2) hx hb dX5_isFileBlock_117 (by decide) ?_
            refine x_calli (va_runVN (As := [.int (nI i), .int (nI 2)]) (rest := [.long (lN (num dn dg ((hfl ef eF i 1) + p1) 2 6))]) ⟨hx, hb, hml, hown, hts⟩ (c_He_field (show okH (fun ef' eg' ex' eF' => wS a cB cI cL h1 h2 s1 s2 op nx wt sf lf dn dg un ug qn qt qg tn tk tv ts ef' eg' ex' eF' pf pg px pF) 13 14 h1 h2 cI from ⟨fun _ _ _ _ => rfl, fun _ _ _ _ => rfl, fun _ _ _ _ _ _ _ => rfl, fun _ _ _ _ _ => rfl⟩) (tyS_I cB cI cL) ef eg ex eF i 2 (by omega) (by omega) (by omega)) ⟨(va_cnB 2 hts (tbG tw_388) rfl rfl rfl n157 ini_X1 (by decide +kernel) ⟨Nat.le_of_ble_eq_true rfl, Nat.le_of_ble_eq_true rfl⟩), im_yX1_field, se_yX1_field⟩ ⟨x_blind, va_recv hK hP (ci := 1) (q0 := 13) rfl rfl, x_pre hK hP hD hN⟩ rfl rfl hl.1 rfl (lv_room (Nat.le_of_ble_eq_true rfl)) dX5_isFileBlock_118 ⟨Nat.zero_le _, Nat.zero_le _⟩) hS (fun H locs hP hD hS => ?_)
            have hP : va_P (dC, dI) vwCl (wS a cB cI cL h1 h2 s1 s2 op nx wt sf lf dn dg un ug qn qt qg tn tk tv ts ef eg ex eF pf pg px pF) H := hP
            have hD : va_D A (wS a cB cI cL h1 h2 s1 s2 op nx wt sf lf dn dg un ug qn qt qg tn tk tv ts ef eg ex eF pf pg px pF) := hD
            have hv118 : hfl ef eF i 2 < 1048576 := hfl_lt heF
            refine lv_i2l (v := lN (hfl ef eF i 2)) hx hb dX5_isFileBlock_121 (nI_l (by omega)) ?_
            refine W.lcmp hx hb dX5_isFileBlock_122 ?_
            refine x_lif_ne (tgt := 130) hx hb dX5_isFileBlock_123 (by decide) (fun c123 => ?_) (fun c123 => ?_)
            · refine lv_iconst (v := nI 0) hx hb dX5_isFileBlock_130 (by decide) ?_
              exact hret dX5_isFileBlock_131 (by first | exact ifb_t ⟨c20, c33, c58, lN_inj (by omega) (by omega) c82, lN_inj (by omega) (by omega) c98, lN_inj (by omega) (by omega) c123⟩ | exact ifb_f (fun q => absurd (c20.symm.trans q.1) (by decide)) | exact ifb_f (fun q => c33 q.2.1) | exact ifb_f (fun q => c58 q.2.2.1) | exact ifb_f (fun q => c82 (by rw [q.2.2.2.1])) | exact ifb_f (fun q => c98 (by rw [q.2.2.2.2.1])) | exact ifb_f (fun q => c123 (by rw [q.2.2.2.2.2]))) hP hD hS
            · refine lv_iconst (v := nI 1) hx hb dX5_isFileBlock_126 (by decide) ?_
              refine lv_goto (tgt := 131) hx hb dX5_isFileBlock_127 (by decide) ?_
              exact hret dX5_isFileBlock_131 (by first | exact ifb_t ⟨c20, c33, c58, lN_inj (by omega) (by omega) c82, lN_inj (by omega) (by omega) c98, lN_inj (by omega) (by omega) c123⟩ | exact ifb_f (fun q => absurd (c20.symm.trans q.1) (by decide)) | exact ifb_f (fun q => c33 q.2.1) | exact ifb_f (fun q => c58 q.2.2.1) | exact ifb_f (fun q => c82 (by rw [q.2.2.2.1])) | exact ifb_f (fun q => c98 (by rw [q.2.2.2.2.1])) | exact ifb_f (fun q => c123 (by rw [q.2.2.2.2.2]))) hP hD hS

set_option maxHeartbeats 4000000 in
set_option maxRecDepth 100000 in
theorem c_SL_nextLogBlock {l : Launch} {dC : Nat → ClassId} {dI : Nat → Nat → Nat} {A : Nat → Prop} {a : Nat → Nat} {cB cI cL : ClassId} {h1 h2 s1 s2 : Nat} {op : Bool} {nx wt sf lf dn : Nat} {dg : Nat → Nat} {un : Nat} {ug : Nat → Nat} {qn : Nat} {qt qg : Nat → Nat} {tn : Nat} {tk tv : Nat → Int64} {ts : Nat → Nat} {ef eg ex : Nat} {eF : Nat → Nat} {pf pg px : Nat} {pF : Nat → Nat} (hdn : dn ≤ 64) (hun : un ≤ 64) (hdg : ∀ j, dg j < 256) (hug : ∀ j, ug j < 8) (hnx : nx < 2 ^ 30) : Met l yX5_nextLogBlock (Cond.code yX5_nextLogBlock cX5_nextLogBlock 3 (some .int) :: TB) { frames := 3, cells := 0, slots := 0, locals := 70 } (xPre Nst (dC, dI) A (tyS cB cI cL) (wS a cB cI cL h1 h2 s1 s2 op nx wt sf lf dn dg un ug qn qt qg tn tk tv ts ef eg ex eF pf pg px pF) [.ref (a 0)]) (xQi (dC, dI) A (oI (nlb dn dg un ug nx (dn - 2) 2)) (wS a cB cI cL h1 h2 s1 s2 op nx wt sf lf dn dg un ug qn qt qg tn tk tv ts ef eg ex eF pf pg px pF)) 0 0 A := by
  refine x_ofWi (cc := cX5_nextLogBlock) (maxL := 3) (by decide) rfl (Nat.le_of_ble_eq_true rfl) ?_
  intro p e s m args below meth c Q hx hb hml hts hown hK hN hP hD hS hret ls hl
  have hl : lv_has ls 3 [(0, .ref (a 0))] := hl
  have hown : s.vm.findClass RX5 = some m.cls := hown
  have f14 := hts _ (List.mem_cons_of_mem _ tw_208)
  have in_X5 := (fun q hq => List.mem_cons_of_mem _ (inX5 q hq) : ∀ q ∈ wsX50, q ∈ (Cond.code yX5_nextLogBlock cX5_nextLogBlock 3 (some .int) :: TB))
  have f173 := hN (.fieldLinkNest RX5 173 "SegmentLog$Blocks" "size" "I" "SegmentLog") (by decide +kernel)
  have in_X0 := (fun q hq => List.mem_cons_of_mem _ (inX0 q hq) : ∀ q ∈ wsX00, q ∈ (Cond.code yX5_nextLogBlock cX5_nextLogBlock 3 (some .int) :: TB))
  have n167 := hN (.methodLinkNest RX5 167 yX0_value "SegmentLog") (by decide +kernel)
  have ini_X0 := hts _ (List.mem_cons_of_mem _ tw_85)
  have im_yX0_value := hts _ (List.mem_cons_of_mem _ tw_345)
  have se_yX0_value := hts _ (List.mem_cons_of_mem _ tw_25)
  have f21 := hts _ (List.mem_cons_of_mem _ tw_209)
  have n164 := hN (.methodLinkNest RX5 164 yX4_of "SegmentLog") (by decide +kernel)
  have ini_X4 := hts _ (List.mem_cons_of_mem _ tw_86)
  have im_yX4_of := hts _ (List.mem_cons_of_mem _ tw_500)
  have se_yX4_of := hts _ (List.mem_cons_of_mem _ tw_50)
  have n258 := hN (.methodLinkNest RX5 258 yX0_number "SegmentLog") (by decide +kernel)
  have im_yX0_number := hts _ (List.mem_cons_of_mem _ tw_452)
  have se_yX0_number := hts _ (List.mem_cons_of_mem _ tw_42)
  have f53 := hts _ (List.mem_cons_of_mem _ tw_215)
  refine lv_iconst (v := nI 2) hx hb dX5_nextLogBlock_0 (by decide) ?_
  refine lv_istore_n (lv' := [(1, .int (nI 2)), (0, .ref (a 0))]) hx hb dX5_nextLogBlock_1 rfl hl (by decide) rfl (fun ls hl => ?_)
  have L2 : ∀ (fu2 : Nat) (b : Nat), (dn - b < fu2) → (2 ≤ b ∧ b ≤ 64) → (nlb dn dg un ug nx (dn - b) b = nlb dn dg un ug nx (dn - 2) 2) → ∀ (H : Heap) (locs : List Loc), va_P (dC, dI) vwCl (wS a cB cI cL h1 h2 s1 s2 op nx wt sf lf dn dg un ug qn qt qg tn tk tv ts ef eg ex eF pf pg px pF) H → va_D A (wS a cB cI cL h1 h2 s1 s2 op nx wt sf lf dn dg un ug qn qt qg tn tk tv ts ef eg ex eF pf pg px pF) → va_S A s.heap H locs → ∀ (ls : Array Slot), lv_has ls 3 [(0, .ref (a 0)), (1, .int (nI b))] → W p l e { frames := 3, cells := 0, slots := 0, locals := 70 } s m args below meth c H locs 0 0 Q (F0 m 2 ls []) := by
    intro fu2
    induction fu2 with
    | zero => intro b hm; exact absurd hm (Nat.not_lt_zero _)
    | succ fu2 ih2 =>
      intro b hm i2_0 i2_1 H locs hP hD hS ls hl
      have w6 : num dn dg b 6 2 < 281474976710656 := num_lt hdg 6 2
      refine lv_iload_n hx hb dX5_nextLogBlock_2 rfl (lv_at hl 1 rfl) ?_
      refine lv_aload_n hx hb dX5_nextLogBlock_3 rfl (lv_at hl 0 rfl) ?_
      refine va_get (D := (dC, dI)) (ci := 5) (v := .ref (a 1)) (C := RX5) (T := TX5) (N := 11) hx hb hts in_X5 hown hK hP 0 rfl rfl 0 (by decide) f14 (fun _ h9 => h9) rfl dX5_nextLogBlock_4 ?_
      refine va_getN (D := (dC, dI)) (ci := 0) (v := .int (nI dn)) (C := RX0) (T := TX0) (N := 2) hx hb hts in_X0 hown hK hP 1 rfl rfl 1 (by decide) (va_Nw.use (A := args) rfl f173) (fun _ h9 => h9) rfl dX5_nextLogBlock_7 ?_
      refine x_icmp_ge (tgt := 73) hx hb dX5_nextLogBlock_10 (by decide) (by omega) (by omega) (fun c10 => ?_) (fun c10 => ?_)
      · refine lv_bipush (v := (-2)) hx hb dX5_nextLogBlock_73 (by decide) ?_
        exact hret dX5_nextLogBlock_75 (by have h := i2_1; rw [show dn - b = 0 by omega, nlb] at h; rw [← h]; rfl) hP hD hS
      · refine lv_aload_n hx hb dX5_nextLogBlock_13 rfl (lv_at hl 0 rfl) ?_
        refine va_get (D := (dC, dI)) (ci := 5) (v := .ref (a 1)) (C := RX5) (T := TX5) (N := 11) hx hb hts in_X5 hown hK hP 0 rfl rfl 0 (by decide) f14 (fun _ h9 => h9) rfl dX5_nextLogBlock_14 ?_
        refine lv_iload_n hx hb dX5_nextLogBlock_17 rfl (lv_at hl 1 rfl) ?_
        refine lv_iconst (v := nI 1) hx hb dX5_nextLogBlock_18 (by decide) ?_
        refine x_calli (va_runVN (As := [.int (nI b), .int (nI 1)]) (rest := []) ⟨hx, hb, hml, hown, hts⟩ (c_Bl_value (show okB (fun dg' => wS a cB cI cL h1 h2 s1 s2 op nx wt sf lf dn dg' un ug qn qt qg tn tk tv ts ef eg ex eF pf pg px pF) 1 2 (a 1) (a 2) cB dn from ⟨fun _ => rfl, fun _ => rfl, fun _ _ => rfl⟩) (tyS_B cB cI cL) (by omega) dg hdg b 1 (by omega) (by omega)) ⟨(va_cnB 2 hts (tbG tw_346) rfl rfl rfl n167 ini_X0 (by decide +kernel) ⟨Nat.le_of_ble_eq_true rfl, Nat.le_of_ble_eq_true rfl⟩), im_yX0_value, se_yX0_value⟩ ⟨x_blind, va_recv hK hP (ci := 0) (q0 := 1) rfl rfl, x_pre hK hP hD hN⟩ rfl rfl hl.1 rfl (lv_room (Nat.le_of_ble_eq_true rfl)) dX5_nextLogBlock_19 ⟨Nat.zero_le _, Nat.zero_le _⟩) hS (fun H locs hP hD hS => ?_)
        have hP : va_P (dC, dI) vwCl (wS a cB cI cL h1 h2 s1 s2 op nx wt sf lf dn dg un ug qn qt qg tn tk tv ts ef eg ex eF pf pg px pF) H := hP
        have hD : va_D A (wS a cB cI cL h1 h2 s1 s2 op nx wt sf lf dn dg un ug qn qt qg tn tk tv ts ef eg ex eF pf pg px pF) := hD
        have hv19 : bv dn dg b 1 < 256 := bv_lt hdg
        refine lv_istore_n (lv' := [(2, .int (nI (bv dn dg b 1))), (0, .ref (a 0)), (1, .int (nI b))]) hx hb dX5_nextLogBlock_22 rfl hl (by decide) rfl (fun ls hl => ?_)
        refine lv_aload_n hx hb dX5_nextLogBlock_23 rfl (lv_at hl 1 rfl) ?_
        refine va_get (D := (dC, dI)) (ci := 5) (v := .ref (a 3)) (C := RX5) (T := TX5) (N := 11) hx hb hts in_X5 hown hK hP 0 rfl rfl 1 (by decide) f21 (fun _ h9 => h9) rfl dX5_nextLogBlock_24 ?_
        refine lv_iload_n hx hb dX5_nextLogBlock_27 rfl (lv_at hl 2 rfl) ?_
        refine x_calli (va_runVN (As := [.int (nI b)]) (rest := []) ⟨hx, hb, hml, hown, hts⟩ (c_Us_of (show okU (fun ug' => wS a cB cI cL h1 h2 s1 s2 op nx wt sf lf dn dg un ug' qn qt qg tn tk tv ts ef eg ex eF pf pg px pF) 3 4 (a 3) (a 4) cI un from ⟨fun _ => rfl, fun _ => rfl, fun _ _ => rfl⟩) (tyS_I cB cI cL) (by omega) ug hug b (by omega)) ⟨(va_cnB 1 hts (tbG tw_501) rfl rfl rfl n164 ini_X4 (by decide +kernel) ⟨Nat.le_of_ble_eq_true rfl, Nat.le_of_ble_eq_true rfl⟩), im_yX4_of, se_yX4_of⟩ ⟨x_blind, va_recv hK hP (ci := 4) (q0 := 3) rfl rfl, x_pre hK hP hD hN⟩ rfl rfl hl.1 rfl (lv_room (Nat.le_of_ble_eq_true rfl)) dX5_nextLogBlock_28 ⟨Nat.zero_le _, Nat.zero_le _⟩) hS (fun H locs hP hD hS => ?_)
        have hP : va_P (dC, dI) vwCl (wS a cB cI cL h1 h2 s1 s2 op nx wt sf lf dn dg un ug qn qt qg tn tk tv ts ef eg ex eF pf pg px pF) H := hP
        have hD : va_D A (wS a cB cI cL h1 h2 s1 s2 op nx wt sf lf dn dg un ug qn qt qg tn tk tv ts ef eg ex eF pf pg px pF) := hD
        have hv28 : uof un ug b < 8 := uof_lt hug
        refine lv_iconst (v := nI 4) hx hb dX5_nextLogBlock_31 (by decide) ?_
        refine x_icmp_ne (tgt := 67) hx hb dX5_nextLogBlock_32 (by decide) (by omega) (by omega) (fun c32 => ?_) (fun c32 => ?_)
        · refine lv_iinc (v := nI (b + 1)) (lv' := [(1, .int (nI (b + 1))), (2, .int (nI (bv dn dg b 1))), (0, .ref (a 0))]) hx hb dX5_nextLogBlock_67 hl (k := 2) rfl (x_inc _) (by decide) rfl (fun ls hl => ?_)
          refine lv_goto (tgt := 2) hx hb dX5_nextLogBlock_70 (by decide) ?_
          exact ih2 (b + 1) (by omega) (by omega) (by have h := i2_1; have hh : ¬ (uof un ug b = 4 ∧ 1 ≤ bv dn dg b 1 ∧ bv dn dg b 1 ≤ 3 ∧ num dn dg b 6 2 = nx) := (by first | omega | exact fun q => c62 (by rw [q.2.2.2])); rw [show dn - b = (dn - (b + 1)) + 1 by omega, nlb, if_neg hh] at h; exact h) _ _ hP hD hS ls (lv_sub hl [2, 0] rfl)
        · refine lv_iload_n hx hb dX5_nextLogBlock_35 rfl (lv_at hl 0 rfl) ?_
          refine lv_iconst (v := nI 1) hx hb dX5_nextLogBlock_36 (by decide) ?_
          refine x_icmp_lt (tgt := 67) hx hb dX5_nextLogBlock_37 (by decide) (by omega) (by omega) (fun c37 => ?_) (fun c37 => ?_)
          · refine lv_iinc (v := nI (b + 1)) (lv' := [(1, .int (nI (b + 1))), (2, .int (nI (bv dn dg b 1))), (0, .ref (a 0))]) hx hb dX5_nextLogBlock_67 hl (k := 2) rfl (x_inc _) (by decide) rfl (fun ls hl => ?_)
            refine lv_goto (tgt := 2) hx hb dX5_nextLogBlock_70 (by decide) ?_
            exact ih2 (b + 1) (by omega) (by omega) (by have h := i2_1; have hh : ¬ (uof un ug b = 4 ∧ 1 ≤ bv dn dg b 1 ∧ bv dn dg b 1 ≤ 3 ∧ num dn dg b 6 2 = nx) := (by first | omega | exact fun q => c62 (by rw [q.2.2.2])); rw [show dn - b = (dn - (b + 1)) + 1 by omega, nlb, if_neg hh] at h; exact h) _ _ hP hD hS ls (lv_sub hl [2, 0] rfl)
          · refine lv_iload_n hx hb dX5_nextLogBlock_40 rfl (lv_at hl 0 rfl) ?_
            refine lv_iconst (v := nI 3) hx hb dX5_nextLogBlock_41 (by decide) ?_
            refine x_icmp_gt (tgt := 67) hx hb dX5_nextLogBlock_42 (by decide) (by omega) (by omega) (fun c42 => ?_) (fun c42 => ?_)
            · refine lv_iinc (v := nI (b + 1)) (lv' := [(1, .int (nI (b + 1))), (2, .int (nI (bv dn dg b 1))), (0, .ref (a 0))]) hx hb dX5_nextLogBlock_67 hl (k := 2) rfl (x_inc _) (by decide) rfl (fun ls hl => ?_)
              refine lv_goto (tgt := 2) hx hb dX5_nextLogBlock_70 (by decide) ?_
              exact ih2 (b + 1) (by omega) (by omega) (by have h := i2_1; have hh : ¬ (uof un ug b = 4 ∧ 1 ≤ bv dn dg b 1 ∧ bv dn dg b 1 ≤ 3 ∧ num dn dg b 6 2 = nx) := (by first | omega | exact fun q => c62 (by rw [q.2.2.2])); rw [show dn - b = (dn - (b + 1)) + 1 by omega, nlb, if_neg hh] at h; exact h) _ _ hP hD hS ls (lv_sub hl [2, 0] rfl)
            · refine lv_aload_n hx hb dX5_nextLogBlock_45 rfl (lv_at hl 1 rfl) ?_
              refine va_get (D := (dC, dI)) (ci := 5) (v := .ref (a 1)) (C := RX5) (T := TX5) (N := 11) hx hb hts in_X5 hown hK hP 0 rfl rfl 0 (by decide) f14 (fun _ h9 => h9) rfl dX5_nextLogBlock_46 ?_
              refine lv_iload_n hx hb dX5_nextLogBlock_49 rfl (lv_at hl 2 rfl) ?_
              refine lv_iconst (v := nI 2) hx hb dX5_nextLogBlock_50 (by decide) ?_
              refine lv_bipush (v := nI 6) hx hb dX5_nextLogBlock_51 (by decide) ?_
              refine x_calll (va_runVN (As := [.int (nI b), .int (nI 2), .int (nI 6)]) (rest := []) ⟨hx, hb, hml, hown, hts⟩ (c_Bl_number (show okB (fun dg' => wS a cB cI cL h1 h2 s1 s2 op nx wt sf lf dn dg' un ug qn qt qg tn tk tv ts ef eg ex eF pf pg px pF) 1 2 (a 1) (a 2) cB dn from ⟨fun _ => rfl, fun _ => rfl, fun _ _ => rfl⟩) (tyS_B cB cI cL) (by omega) dg hdg b 2 6 (by omega) (by omega) (by omega)) ⟨(va_cnB 3 hts (tbG tw_453) rfl rfl rfl n258 ini_X0 (by decide +kernel) ⟨Nat.le_of_ble_eq_true rfl, Nat.le_of_ble_eq_true rfl⟩), im_yX0_number, se_yX0_number⟩ ⟨x_blind, va_recv hK hP (ci := 0) (q0 := 1) rfl rfl, x_pre hK hP hD hN⟩ rfl rfl hl.1 rfl (lv_room (Nat.le_of_ble_eq_true rfl)) dX5_nextLogBlock_53 ⟨Nat.zero_le _, Nat.zero_le _⟩) hS (fun H locs hP hD hS => ?_)
              have hP : va_P (dC, dI) vwCl (wS a cB cI cL h1 h2 s1 s2 op nx wt sf lf dn dg un ug qn qt qg tn tk tv ts ef eg ex eF pf pg px pF) H := hP
              have hD : va_D A (wS a cB cI cL h1 h2 s1 s2 op nx wt sf lf dn dg un ug qn qt qg tn tk tv ts ef eg ex eF pf pg px pF) := hD
              refine lv_aload_n hx hb dX5_nextLogBlock_56 rfl (lv_at hl 1 rfl) ?_
              refine va_get (D := (dC, dI)) (ci := 5) (v := .int (nI nx)) (C := RX5) (T := TX5) (N := 11) hx hb hts in_X5 hown hK hP 0 rfl rfl 7 (by decide) f53 (fun _ h9 => h9) rfl dX5_nextLogBlock_57 ?_
              refine lv_i2l (v := lN nx) hx hb dX5_nextLogBlock_60 (nI_l (by omega)) ?_
              refine W.lcmp hx hb dX5_nextLogBlock_61 ?_
              refine x_lif_ne (tgt := 67) hx hb dX5_nextLogBlock_62 (by decide) (fun c62 => ?_) (fun c62 => ?_)
              · refine lv_iinc (v := nI (b + 1)) (lv' := [(1, .int (nI (b + 1))), (2, .int (nI (bv dn dg b 1))), (0, .ref (a 0))]) hx hb dX5_nextLogBlock_67 hl (k := 2) rfl (x_inc _) (by decide) rfl (fun ls hl => ?_)
                refine lv_goto (tgt := 2) hx hb dX5_nextLogBlock_70 (by decide) ?_
                exact ih2 (b + 1) (by omega) (by omega) (by have h := i2_1; have hh : ¬ (uof un ug b = 4 ∧ 1 ≤ bv dn dg b 1 ∧ bv dn dg b 1 ≤ 3 ∧ num dn dg b 6 2 = nx) := (by first | omega | exact fun q => c62 (by rw [q.2.2.2])); rw [show dn - b = (dn - (b + 1)) + 1 by omega, nlb, if_neg hh] at h; exact h) _ _ hP hD hS ls (lv_sub hl [2, 0] rfl)
              · refine lv_iload_n hx hb dX5_nextLogBlock_65 rfl (lv_at hl 2 rfl) ?_
                exact hret dX5_nextLogBlock_66 (by have h := i2_1; have hh : uof un ug b = 4 ∧ 1 ≤ bv dn dg b 1 ∧ bv dn dg b 1 ≤ 3 ∧ num dn dg b 6 2 = nx := ⟨by omega, by omega, by omega, lN_inj (by omega) (by omega) c62⟩; rw [show dn - b = (dn - (b + 1)) + 1 by omega, nlb, if_pos hh] at h; rw [← h]; rfl) hP hD hS
  exact L2 (dn - 2 + 1) 2 (by omega) (by omega) (by rfl) _ _ hP hD hS ls (lv_sub hl [1, 0] rfl)

set_option maxHeartbeats 4000000 in
set_option maxRecDepth 100000 in
theorem c_SL_firstWrongBlock {l : Launch} {dC : Nat → ClassId} {dI : Nat → Nat → Nat} {A : Nat → Prop} {a : Nat → Nat} {cB cI cL : ClassId} {h1 h2 s1 s2 : Nat} {op : Bool} {nx wt sf lf dn : Nat} {dg : Nat → Nat} {un : Nat} {ug : Nat → Nat} {qn : Nat} {qt qg : Nat → Nat} {tn : Nat} {tk tv : Nat → Int64} {ts : Nat → Nat} {ef eg ex : Nat} {eF : Nat → Nat} {pf pg px : Nat} {pF : Nat → Nat} (hdn : dn ≤ 64) (hdg : ∀ j, dg j < 256) (heF : ∀ j, eF j < 1048576) (hef : ef ≤ 5) (hgo : ∀ i, i < ef → (hfl ef eF i 3 + 2) / 3 = hfl ef eF i 2) : Met l yX5_firstWrongBlock (Cond.code yX5_firstWrongBlock cX5_firstWrongBlock 3 (some .int) :: TB) { frames := 5, cells := 0, slots := 0, locals := 115 } (xPre Nst (dC, dI) A (tyS cB cI cL) (wS a cB cI cL h1 h2 s1 s2 op nx wt sf lf dn dg un ug qn qt qg tn tk tv ts ef eg ex eF pf pg px pF) [.ref (a 0)]) (xQi (dC, dI) A (oI (fwO dn dg ef eF ef 0)) (wS a cB cI cL h1 h2 s1 s2 op nx wt sf lf dn dg un ug qn qt qg tn tk tv ts ef eg ex eF pf pg px pF)) 0 0 A := by
  refine x_ofWi (cc := cX5_firstWrongBlock) (maxL := 3) (by decide) rfl (Nat.le_of_ble_eq_true rfl) ?_
  intro p e s m args below meth c Q hx hb hml hts hown hK hN hP hD hS hret ls hl
  have hl : lv_has ls 3 [(0, .ref (a 0))] := hl
  have hown : s.vm.findClass RX5 = some m.cls := hown
  have f42 := hts _ (List.mem_cons_of_mem _ tw_212)
  have in_X5 := (fun q hq => List.mem_cons_of_mem _ (inX5 q hq) : ∀ q ∈ wsX50, q ∈ (Cond.code yX5_firstWrongBlock cX5_firstWrongBlock 3 (some .int) :: TB))
  have f91 := hN (.fieldLinkNest RX5 91 "SegmentLog$Head" "files" "I" "SegmentLog") (by decide +kernel)
  have in_X1 := (fun q hq => List.mem_cons_of_mem _ (inX1 q hq) : ∀ q ∈ wsX10, q ∈ (Cond.code yX5_firstWrongBlock cX5_firstWrongBlock 3 (some .int) :: TB))
  have n157 := hN (.methodLinkNest RX5 157 yX1_field "SegmentLog") (by decide +kernel)
  have ini_X1 := hts _ (List.mem_cons_of_mem _ tw_90)
  have im_yX1_field := hts _ (List.mem_cons_of_mem _ tw_387)
  have se_yX1_field := hts _ (List.mem_cons_of_mem _ tw_30)
  refine lv_iconst (v := nI 0) hx hb dX5_firstWrongBlock_0 (by decide) ?_
  refine lv_istore_n (lv' := [(1, .int (nI 0)), (0, .ref (a 0))]) hx hb dX5_firstWrongBlock_1 rfl hl (by decide) rfl (fun ls hl => ?_)
  have L2 : ∀ (fu2 : Nat) (i : Nat), (ef - i < fu2) → (i ≤ ef) → (fwO dn dg ef eF (ef - i) i = fwO dn dg ef eF ef 0) → ∀ (H : Heap) (locs : List Loc), va_P (dC, dI) vwCl (wS a cB cI cL h1 h2 s1 s2 op nx wt sf lf dn dg un ug qn qt qg tn tk tv ts ef eg ex eF pf pg px pF) H → va_D A (wS a cB cI cL h1 h2 s1 s2 op nx wt sf lf dn dg un ug qn qt qg tn tk tv ts ef eg ex eF pf pg px pF) → va_S A s.heap H locs → ∀ (ls : Array Slot), lv_has ls 3 [(0, .ref (a 0)), (1, .int (nI i))] → W p l e { frames := 5, cells := 0, slots := 0, locals := 115 } s m args below meth c H locs 0 0 Q (F0 m 2 ls []) := by
    intro fu2
    induction fu2 with
    | zero => intro i hm; exact absurd hm (Nat.not_lt_zero _)
    | succ fu2 ih2 =>
      intro i hm i2_0 i2_1 H locs hP hD hS ls hl
      refine lv_iload_n hx hb dX5_firstWrongBlock_2 rfl (lv_at hl 1 rfl) ?_
      refine lv_aload_n hx hb dX5_firstWrongBlock_3 rfl (lv_at hl 0 rfl) ?_
      refine va_get (D := (dC, dI)) (ci := 5) (v := .ref h1) (C := RX5) (T := TX5) (N := 11) hx hb hts in_X5 hown hK hP 0 rfl rfl 4 (by decide) f42 (fun _ h9 => h9) rfl dX5_firstWrongBlock_4 ?_
      refine va_getN (D := (dC, dI)) (ci := 1) (v := .int (nI ef)) (C := RX1) (T := TX1) (N := 4) hx hb hts in_X1 hown hK hP 13 rfl rfl 1 (by decide) (va_Nw.use (A := args) rfl f91) (fun _ h9 => h9) rfl dX5_firstWrongBlock_7 ?_
      refine x_icmp_ge (tgt := 61) hx hb dX5_firstWrongBlock_10 (by decide) (by omega) (by omega) (fun c10 => ?_) (fun c10 => ?_)
      · refine lv_bipush (v := (-2)) hx hb dX5_firstWrongBlock_61 (by decide) ?_
        exact hret dX5_firstWrongBlock_63 (by have h := i2_1; rw [show ef - i = 0 by omega, fwO] at h; rw [← h]; rfl) hP hD hS
      · refine lv_iconst (v := nI 0) hx hb dX5_firstWrongBlock_13 (by decide) ?_
        refine lv_istore_n (lv' := [(2, .int (nI 0)), (0, .ref (a 0)), (1, .int (nI i))]) hx hb dX5_firstWrongBlock_14 rfl hl (by decide) rfl (fun ls hl => ?_)
        have L15 : ∀ (fu15 : Nat) (p1 : Nat), (hfl ef eF i 2 - p1 < fu15) → (p1 ≤ hfl ef eF i 2) → (fwI dn dg ef eF i (hfl ef eF i 2 - p1) p1 = fwI dn dg ef eF i (hfl ef eF i 2) 0) → ∀ (H : Heap) (locs : List Loc), va_P (dC, dI) vwCl (wS a cB cI cL h1 h2 s1 s2 op nx wt sf lf dn dg un ug qn qt qg tn tk tv ts ef eg ex eF pf pg px pF) H → va_D A (wS a cB cI cL h1 h2 s1 s2 op nx wt sf lf dn dg un ug qn qt qg tn tk tv ts ef eg ex eF pf pg px pF) → va_S A s.heap H locs → ∀ (ls : Array Slot), lv_has ls 3 [(0, .ref (a 0)), (1, .int (nI i)), (2, .int (nI p1))] → W p l e { frames := 5, cells := 0, slots := 0, locals := 115 } s m args below meth c H locs 0 0 Q (F0 m 15 ls []) := by
          intro fu15
          induction fu15 with
          | zero => intro p1 hm; exact absurd hm (Nat.not_lt_zero _)
          | succ fu15 ih15 =>
            intro p1 hm i15_0 i15_1 H locs hP hD hS ls hl
            have q3 := hgo i (by omega)
            have q2 := hfl_lt (n := ef) heF (i := i) (w := 2)
            have q4 := hfl_lt (n := ef) heF (i := i) (w := 1)
            refine lv_iload_n hx hb dX5_firstWrongBlock_15 rfl (lv_at hl 2 rfl) ?_
            refine lv_aload_n hx hb dX5_firstWrongBlock_16 rfl (lv_at hl 0 rfl) ?_
            refine va_get (D := (dC, dI)) (ci := 5) (v := .ref h1) (C := RX5) (T := TX5) (N := 11) hx hb hts in_X5 hown hK hP 0 rfl rfl 4 (by decide) f42 (fun _ h9 => h9) rfl dX5_firstWrongBlock_17 ?_
            refine lv_iload_n hx hb dX5_firstWrongBlock_20 rfl (lv_at hl 1 rfl) ?_
            refine lv_iconst (v := nI 2) hx hb dX5_firstWrongBlock_21 (by decide) ?_
            refine x_calli (va_runVN (As := [.int (nI i), .int (nI 2)]) (rest := [.int (nI p1)]) ⟨hx, hb, hml, hown, hts⟩ (c_He_field (show okH (fun ef' eg' ex' eF' => wS a cB cI cL h1 h2 s1 s2 op nx wt sf lf dn dg un ug qn qt qg tn tk tv ts ef' eg' ex' eF' pf pg px pF) 13 14 h1 h2 cI from ⟨fun _ _ _ _ => rfl, fun _ _ _ _ => rfl, fun _ _ _ _ _ _ _ => rfl, fun _ _ _ _ _ => rfl⟩) (tyS_I cB cI cL) ef eg ex eF i 2 (by omega) (by omega) (by omega)) ⟨(va_cnB 2 hts (tbG tw_388) rfl rfl rfl n157 ini_X1 (by decide +kernel) ⟨Nat.le_of_ble_eq_true rfl, Nat.le_of_ble_eq_true rfl⟩), im_yX1_field, se_yX1_field⟩ ⟨x_blind, va_recv hK hP (ci := 1) (q0 := 13) rfl rfl, x_pre hK hP hD hN⟩ rfl rfl hl.1 rfl (lv_room (Nat.le_of_ble_eq_true rfl)) dX5_firstWrongBlock_22 ⟨Nat.zero_le _, Nat.zero_le _⟩) hS (fun H locs hP hD hS => ?_)
            have hP : va_P (dC, dI) vwCl (wS a cB cI cL h1 h2 s1 s2 op nx wt sf lf dn dg un ug qn qt qg tn tk tv ts ef eg ex eF pf pg px pF) H := hP
            have hD : va_D A (wS a cB cI cL h1 h2 s1 s2 op nx wt sf lf dn dg un ug qn qt qg tn tk tv ts ef eg ex eF pf pg px pF) := hD
            have hv22 : hfl ef eF i 2 < 1048576 := hfl_lt heF
            refine x_icmp_ge (tgt := 55) hx hb dX5_firstWrongBlock_25 (by decide) (by omega) (by omega) (fun c25 => ?_) (fun c25 => ?_)
            · refine lv_iinc (v := nI (i + 1)) (lv' := [(1, .int (nI (i + 1))), (0, .ref (a 0)), (2, .int (nI p1))]) hx hb dX5_firstWrongBlock_55 hl (k := 1) rfl (x_inc _) (by decide) rfl (fun ls hl => ?_)
              refine lv_goto (tgt := 2) hx hb dX5_firstWrongBlock_58 (by decide) ?_
              exact ih2 (i + 1) (by omega) (by omega) (by have h := i2_1; have z := i15_1; rw [show hfl ef eF i 2 - p1 = 0 by omega, fwI] at z; rw [show ef - i = (ef - (i + 1)) + 1 by omega, fwO, ← z] at h; exact h) _ _ hP hD hS ls (lv_sub hl [1, 0] rfl)
            · refine lv_aload_n hx hb dX5_firstWrongBlock_28 rfl (lv_at hl 0 rfl) ?_
              refine lv_iload_n hx hb dX5_firstWrongBlock_29 rfl (lv_at hl 1 rfl) ?_
              refine lv_iload_n hx hb dX5_firstWrongBlock_30 rfl (lv_at hl 2 rfl) ?_
              refine x_calli (va_runV (As := [.int (nI i), .int (nI p1)]) (rest := []) ⟨hx, hb, hml, hown, hts⟩ (c_SL_isFileBlock (by omega) hdg heF (by omega) i p1 (by omega) (by omega) (by omega)) (cwV 2 hts (tbV tw_476 tw_478 tw_46 tw_84 tw_479) rfl rfl rfl (by decide +kernel) ⟨Nat.le_of_ble_eq_true rfl, Nat.le_of_ble_eq_true rfl⟩) ⟨x_blind, va_recv hK hP (ci := 5) (q0 := 0) rfl rfl, x_pre hK hP hD hN⟩ rfl rfl hl.1 rfl (lv_room (Nat.le_of_ble_eq_true rfl)) dX5_firstWrongBlock_31 ⟨Nat.zero_le _, Nat.zero_le _⟩) hS (fun H locs hP hD hS => ?_)
              have hP : va_P (dC, dI) vwCl (wS a cB cI cL h1 h2 s1 s2 op nx wt sf lf dn dg un ug qn qt qg tn tk tv ts ef eg ex eF pf pg px pF) H := hP
              have hD : va_D A (wS a cB cI cL h1 h2 s1 s2 op nx wt sf lf dn dg un ug qn qt qg tn tk tv ts ef eg ex eF pf pg px pF) := hD
              refine x_if_ne_b (tgt := 49) hx hb dX5_firstWrongBlock_34 (by decide) (fun c34 => ?_) (fun c34 => ?_)
              · refine lv_iinc (v := nI (p1 + 1)) (lv' := [(2, .int (nI (p1 + 1))), (0, .ref (a 0)), (1, .int (nI i))]) hx hb dX5_firstWrongBlock_49 hl (k := 2) rfl (x_inc _) (by decide) rfl (fun ls hl => ?_)
                refine lv_goto (tgt := 15) hx hb dX5_firstWrongBlock_52 (by decide) ?_
                exact ih15 (p1 + 1) (by omega) (by omega) (by have h := i15_1; rw [show hfl ef eF i 2 - p1 = (hfl ef eF i 2 - (p1 + 1)) + 1 by omega, fwI, if_pos c34] at h; exact h) _ _ hP hD hS ls (lv_sub hl [1, 2, 0] rfl)
              · have z := i15_1
                rw [show hfl ef eF i 2 - p1 = (hfl ef eF i 2 - (p1 + 1)) + 1 by omega, fwI, if_neg (by rw [c34]; decide)] at z
                have h := i2_1
                rw [show ef - i = (ef - (i + 1)) + 1 by omega, fwO, ← z] at h
                refine lv_aload_n hx hb dX5_firstWrongBlock_37 rfl (lv_at hl 0 rfl) ?_
                refine va_get (D := (dC, dI)) (ci := 5) (v := .ref h1) (C := RX5) (T := TX5) (N := 11) hx hb hts in_X5 hown hK hP 0 rfl rfl 4 (by decide) f42 (fun _ h9 => h9) rfl dX5_firstWrongBlock_38 ?_
                refine lv_iload_n hx hb dX5_firstWrongBlock_41 rfl (lv_at hl 1 rfl) ?_
                refine lv_iconst (v := nI 1) hx hb dX5_firstWrongBlock_42 (by decide) ?_
                refine x_calli (va_runVN (As := [.int (nI i), .int (nI 1)]) (rest := []) ⟨hx, hb, hml, hown, hts⟩ (c_He_field (show okH (fun ef' eg' ex' eF' => wS a cB cI cL h1 h2 s1 s2 op nx wt sf lf dn dg un ug qn qt qg tn tk tv ts ef' eg' ex' eF' pf pg px pF) 13 14 h1 h2 cI from ⟨fun _ _ _ _ => rfl, fun _ _ _ _ => rfl, fun _ _ _ _ _ _ _ => rfl, fun _ _ _ _ _ => rfl⟩) (tyS_I cB cI cL) ef eg ex eF i 1 (by omega) (by omega) (by omega)) ⟨(va_cnB 2 hts (tbG tw_388) rfl rfl rfl n157 ini_X1 (by decide +kernel) ⟨Nat.le_of_ble_eq_true rfl, Nat.le_of_ble_eq_true rfl⟩), im_yX1_field, se_yX1_field⟩ ⟨x_blind, va_recv hK hP (ci := 1) (q0 := 13) rfl rfl, x_pre hK hP hD hN⟩ rfl rfl hl.1 rfl (lv_room (Nat.le_of_ble_eq_true rfl)) dX5_firstWrongBlock_43 ⟨Nat.zero_le _, Nat.zero_le _⟩) hS (fun H locs hP hD hS => ?_)
                have hP : va_P (dC, dI) vwCl (wS a cB cI cL h1 h2 s1 s2 op nx wt sf lf dn dg un ug qn qt qg tn tk tv ts ef eg ex eF pf pg px pF) H := hP
                have hD : va_D A (wS a cB cI cL h1 h2 s1 s2 op nx wt sf lf dn dg un ug qn qt qg tn tk tv ts ef eg ex eF pf pg px pF) := hD
                have hv43 : hfl ef eF i 1 < 1048576 := hfl_lt heF
                refine lv_iload_n hx hb dX5_firstWrongBlock_46 rfl (lv_at hl 2 rfl) ?_
                refine x_iadd hx hb dX5_firstWrongBlock_47 ?_
                exact hret dX5_firstWrongBlock_48 (by rw [← h]; rfl) hP hD hS
        exact L15 (hfl ef eF i 2 - 0 + 1) 0 (by omega) (by omega) (by rfl) _ _ hP hD hS ls (lv_sub hl [1, 2, 0] rfl)
  exact L2 (ef - 0 + 1) 0 (by omega) (by omega) (by rfl) _ _ hP hD hS ls (lv_sub hl [1, 0] rfl)

set_option maxHeartbeats 4000000 in
set_option maxRecDepth 100000 in
theorem c_SL_readLogBlock {l : Launch} {dC : Nat → ClassId} {dI : Nat → Nat → Nat} {A : Nat → Prop} {a : Nat → Nat} {cB cI cL : ClassId} {h1 h2 s1 s2 : Nat} {op : Bool} {nx wt sf lf dn : Nat} {dg : Nat → Nat} {un : Nat} {ug : Nat → Nat} {qn : Nat} {qt qg : Nat → Nat} {tn : Nat} {tk tv : Nat → Int64} {ts : Nat → Nat} {ef eg ex : Nat} {eF : Nat → Nat} {pf pg px : Nat} {pF : Nat → Nat} (hdn : dn ≤ 64) (hun : un ≤ 64) (htn : tn ≤ 192) (hdg : ∀ j, dg j < 256) (hug : ∀ j, ug j < 8) (hs : ∀ j, ts j < 2 ^ 31) (hnx : nx < 2 ^ 30) (b : Nat) (hb1 : b < 2 ^ 20) : Met l yX5_readLogBlock (Cond.code yX5_readLogBlock cX5_readLogBlock 4 none :: TB) { frames := 4, cells := 0, slots := 0, locals := 94 } (xPre Nst (dC, dI) A (tyS cB cI cL) (wS a cB cI cL h1 h2 s1 s2 op nx wt sf lf dn dg un ug qn qt qg tn tk tv ts ef eg ex eF pf pg px pF) [.ref (a 0), .int (nI b)]) (xQv (dC, dI) A (wS a cB cI cL h1 h2 s1 s2 op (nx + bv dn dg b 1) wt sf lf dn dg un (umk un b 1 1 ug 0) qn qt qg ((rlI dn dg b nx (bv dn dg b 1) 0 (tn, tk, tv, ts)).1) ((rlI dn dg b nx (bv dn dg b 1) 0 (tn, tk, tv, ts)).2.1) ((rlI dn dg b nx (bv dn dg b 1) 0 (tn, tk, tv, ts)).2.2.1) ((rlI dn dg b nx (bv dn dg b 1) 0 (tn, tk, tv, ts)).2.2.2) ef eg ex eF pf pg px pF)) 0 0 A := by
  refine x_ofWv (cc := cX5_readLogBlock) (maxL := 4) (by decide) rfl (Nat.le_of_ble_eq_true rfl) ?_
  intro p e s m args below meth c Q hx hb hml hts hown hK hN hP hD hS hret ls hl
  have hl : lv_has ls 4 [(0, .ref (a 0)), (1, .int (nI b))] := hl
  have hown : s.vm.findClass RX5 = some m.cls := hown
  have w1 := bv_lt (n := dn) (b := b) (i := 1) hdg
  have f14 := hts _ (List.mem_cons_of_mem _ tw_208)
  have in_X5 := (fun q hq => List.mem_cons_of_mem _ (inX5 q hq) : ∀ q ∈ wsX50, q ∈ (Cond.code yX5_readLogBlock cX5_readLogBlock 4 none :: TB))
  have n167 := hN (.methodLinkNest RX5 167 yX0_value "SegmentLog") (by decide +kernel)
  have ini_X0 := hts _ (List.mem_cons_of_mem _ tw_85)
  have im_yX0_value := hts _ (List.mem_cons_of_mem _ tw_345)
  have se_yX0_value := hts _ (List.mem_cons_of_mem _ tw_25)
  have f53 := hts _ (List.mem_cons_of_mem _ tw_215)
  have f21 := hts _ (List.mem_cons_of_mem _ tw_209)
  have n225 := hN (.methodLinkNest RX5 225 yX4_mark "SegmentLog") (by decide +kernel)
  have ini_X4 := hts _ (List.mem_cons_of_mem _ tw_86)
  have im_yX4_mark := hts _ (List.mem_cons_of_mem _ tw_131)
  have se_yX4_mark := hts _ (List.mem_cons_of_mem _ tw_1)
  refine lv_aload_n hx hb dX5_readLogBlock_0 rfl (lv_at hl 0 rfl) ?_
  refine va_get (D := (dC, dI)) (ci := 5) (v := .ref (a 1)) (C := RX5) (T := TX5) (N := 11) hx hb hts in_X5 hown hK hP 0 rfl rfl 0 (by decide) f14 (fun _ h9 => h9) rfl dX5_readLogBlock_1 ?_
  refine lv_iload_n hx hb dX5_readLogBlock_4 rfl (lv_at hl 1 rfl) ?_
  refine lv_iconst (v := nI 1) hx hb dX5_readLogBlock_5 (by decide) ?_
  refine x_calli (va_runVN (As := [.int (nI b), .int (nI 1)]) (rest := []) ⟨hx, hb, hml, hown, hts⟩ (c_Bl_value (show okB (fun dg' => wS a cB cI cL h1 h2 s1 s2 op nx wt sf lf dn dg' un ug qn qt qg tn tk tv ts ef eg ex eF pf pg px pF) 1 2 (a 1) (a 2) cB dn from ⟨fun _ => rfl, fun _ => rfl, fun _ _ => rfl⟩) (tyS_B cB cI cL) (by omega) dg hdg b 1 (by omega) (by omega)) ⟨(va_cnB 2 hts (tbG tw_346) rfl rfl rfl n167 ini_X0 (by decide +kernel) ⟨Nat.le_of_ble_eq_true rfl, Nat.le_of_ble_eq_true rfl⟩), im_yX0_value, se_yX0_value⟩ ⟨x_blind, va_recv hK hP (ci := 0) (q0 := 1) rfl rfl, x_pre hK hP hD hN⟩ rfl rfl hl.1 rfl (lv_room (Nat.le_of_ble_eq_true rfl)) dX5_readLogBlock_6 ⟨Nat.zero_le _, Nat.zero_le _⟩) hS (fun H locs hP hD hS => ?_)
  have hP : va_P (dC, dI) vwCl (wS a cB cI cL h1 h2 s1 s2 op nx wt sf lf dn dg un ug qn qt qg tn tk tv ts ef eg ex eF pf pg px pF) H := hP
  have hD : va_D A (wS a cB cI cL h1 h2 s1 s2 op nx wt sf lf dn dg un ug qn qt qg tn tk tv ts ef eg ex eF pf pg px pF) := hD
  have hv6 : bv dn dg b 1 < 256 := bv_lt hdg
  refine lv_istore_n (lv' := [(2, .int (nI (bv dn dg b 1))), (0, .ref (a 0)), (1, .int (nI b))]) hx hb dX5_readLogBlock_9 rfl hl (by decide) rfl (fun ls hl => ?_)
  refine lv_iconst (v := nI 0) hx hb dX5_readLogBlock_10 (by decide) ?_
  refine lv_istore_n (lv' := [(3, .int (nI 0)), (2, .int (nI (bv dn dg b 1))), (0, .ref (a 0)), (1, .int (nI b))]) hx hb dX5_readLogBlock_11 rfl hl (by decide) rfl (fun ls hl => ?_)
  have L12 : ∀ (fu12 : Nat) (j : Nat) (T' : TS), (bv dn dg b 1 - j < fu12) → (j ≤ bv dn dg b 1) → (T'.1 ≤ 192) → (∀ q, T'.2.2.2 q < 2 ^ 31) → (rlI dn dg b nx (bv dn dg b 1 - j) j T' = rlI dn dg b nx (bv dn dg b 1) 0 (tn, tk, tv, ts)) → ∀ (H : Heap) (locs : List Loc), va_P (dC, dI) vwCl (wS a cB cI cL h1 h2 s1 s2 op nx wt sf lf dn dg un ug qn qt qg T'.1 T'.2.1 T'.2.2.1 T'.2.2.2 ef eg ex eF pf pg px pF) H → va_D A (wS a cB cI cL h1 h2 s1 s2 op nx wt sf lf dn dg un ug qn qt qg T'.1 T'.2.1 T'.2.2.1 T'.2.2.2 ef eg ex eF pf pg px pF) → va_S A s.heap H locs → ∀ (ls : Array Slot), lv_has ls 4 [(0, .ref (a 0)), (1, .int (nI b)), (2, .int (nI (bv dn dg b 1))), (3, .int (nI j))] → W p l e { frames := 4, cells := 0, slots := 0, locals := 94 } s m args below meth c H locs 0 0 Q (F0 m 12 ls []) := by
    intro fu12
    induction fu12 with
    | zero => intro j T' hm; exact absurd hm (Nat.not_lt_zero _)
    | succ fu12 ih12 =>
      intro j T' hm i12_0 i12_1 i12_2 i12_3 H locs hP hD hS ls hl
      refine lv_iload_n hx hb dX5_readLogBlock_12 rfl (lv_at hl 3 rfl) ?_
      refine lv_iload_n hx hb dX5_readLogBlock_13 rfl (lv_at hl 2 rfl) ?_
      refine x_icmp_ge (tgt := 35) hx hb dX5_readLogBlock_14 (by decide) (by omega) (by omega) (fun c14 => ?_) (fun c14 => ?_)
      · have zz := i12_3
        rw [show bv dn dg b 1 - j = 0 by omega, rlI] at zz
        refine lv_aload_n hx hb dX5_readLogBlock_35 rfl (lv_at hl 0 rfl) ?_
        refine lv_dup hx hb dX5_readLogBlock_36 rfl ?_
        refine va_get (D := (dC, dI)) (ci := 5) (v := .int (nI nx)) (C := RX5) (T := TX5) (N := 11) hx hb hts in_X5 hown hK hP 0 rfl rfl 7 (by decide) f53 (fun _ h9 => h9) rfl dX5_readLogBlock_37 ?_
        refine lv_iload_n hx hb dX5_readLogBlock_40 rfl (lv_at hl 2 rfl) ?_
        refine x_iadd hx hb dX5_readLogBlock_41 ?_
        refine va_put (D := (dC, dI)) (ci := 5) (v := .int (nI (nx + (bv dn dg b 1)))) (ty := .int) (C := RX5) (T := TX5) (N := 11) hx hb hts in_X5 tyX5 tyX5_ok nmX5 hown hK hP hD hS 0 rfl rfl 7 (by decide) f53 (fun _ h9 => h9) rfl (by decide +kernel) rfl rfl (Nat.le_of_ble_eq_true rfl) dX5_readLogBlock_42 (fun H locs hP hD hS => ?_)
        have hP : va_P (dC, dI) vwCl (wS a cB cI cL h1 h2 s1 s2 op (nx + (bv dn dg b 1)) wt sf lf dn dg un ug qn qt qg T'.1 T'.2.1 T'.2.2.1 T'.2.2.2 ef eg ex eF pf pg px pF) H := hP
        have hD : va_D A (wS a cB cI cL h1 h2 s1 s2 op (nx + (bv dn dg b 1)) wt sf lf dn dg un ug qn qt qg T'.1 T'.2.1 T'.2.2.1 T'.2.2.2 ef eg ex eF pf pg px pF) := hD
        refine lv_aload_n hx hb dX5_readLogBlock_45 rfl (lv_at hl 0 rfl) ?_
        refine va_get (D := (dC, dI)) (ci := 5) (v := .ref (a 3)) (C := RX5) (T := TX5) (N := 11) hx hb hts in_X5 hown hK hP 0 rfl rfl 1 (by decide) f21 (fun _ h9 => h9) rfl dX5_readLogBlock_46 ?_
        refine lv_iload_n hx hb dX5_readLogBlock_49 rfl (lv_at hl 1 rfl) ?_
        refine lv_iconst (v := nI 1) hx hb dX5_readLogBlock_50 (by decide) ?_
        refine lv_iconst (v := nI 1) hx hb dX5_readLogBlock_51 (by decide) ?_
        refine x_callv (va_runVN (As := [.int (nI b), .int (nI 1), .int (nI 1)]) (rest := []) ⟨hx, hb, hml, hown, hts⟩ (c_Us_mark (show okU (fun ug' => wS a cB cI cL h1 h2 s1 s2 op (nx + (bv dn dg b 1)) wt sf lf dn dg un ug' qn qt qg T'.1 T'.2.1 T'.2.2.1 T'.2.2.2 ef eg ex eF pf pg px pF) 3 4 (a 3) (a 4) cI un from ⟨fun _ => rfl, fun _ => rfl, fun _ _ => rfl⟩) (tyS_I cB cI cL) (by omega) ug hug b 1 1 (by omega) (by omega)) ⟨(va_cnB 3 hts (tbG tw_132) rfl rfl rfl n225 ini_X4 (by decide +kernel) ⟨Nat.le_of_ble_eq_true rfl, Nat.le_of_ble_eq_true rfl⟩), im_yX4_mark, se_yX4_mark⟩ ⟨x_blind, va_recv hK hP (ci := 4) (q0 := 3) rfl rfl, x_pre hK hP hD hN⟩ rfl rfl hl.1 rfl (lv_room (Nat.le_of_ble_eq_true rfl)) dX5_readLogBlock_52 ⟨Nat.zero_le _, Nat.zero_le _⟩) hS (fun H locs hP hD hS => ?_)
        have hP : va_P (dC, dI) vwCl (wS a cB cI cL h1 h2 s1 s2 op (nx + (bv dn dg b 1)) wt sf lf dn dg un (umk un b 1 1 ug 0) qn qt qg T'.1 T'.2.1 T'.2.2.1 T'.2.2.2 ef eg ex eF pf pg px pF) H := hP
        have hD : va_D A (wS a cB cI cL h1 h2 s1 s2 op (nx + (bv dn dg b 1)) wt sf lf dn dg un (umk un b 1 1 ug 0) qn qt qg T'.1 T'.2.1 T'.2.2.1 T'.2.2.2 ef eg ex eF pf pg px pF) := hD
        have e1 : T'.1 = ((rlI dn dg b nx (bv dn dg b 1) 0 (tn, tk, tv, ts)).1) := by rw [zz]
        have h9 : wS a cB cI cL h1 h2 s1 s2 op (nx + (bv dn dg b 1)) wt sf lf dn dg un (umk un b 1 1 ug 0) qn qt qg T'.1 T'.2.1 T'.2.2.1 T'.2.2.2 ef eg ex eF pf pg px pF = wS a cB cI cL h1 h2 s1 s2 op (nx + (bv dn dg b 1)) wt sf lf dn dg un (umk un b 1 1 ug 0) qn qt qg ((rlI dn dg b nx (bv dn dg b 1) 0 (tn, tk, tv, ts)).1) T'.2.1 T'.2.2.1 T'.2.2.2 ef eg ex eF pf pg px pF := by rw [← e1]
        have hP := x_wP h9 hP
        have hD := x_wD h9 hD
        have e2 : T'.2.1 = ((rlI dn dg b nx (bv dn dg b 1) 0 (tn, tk, tv, ts)).2.1) := by rw [zz]
        have h9 : wS a cB cI cL h1 h2 s1 s2 op (nx + (bv dn dg b 1)) wt sf lf dn dg un (umk un b 1 1 ug 0) qn qt qg ((rlI dn dg b nx (bv dn dg b 1) 0 (tn, tk, tv, ts)).1) T'.2.1 T'.2.2.1 T'.2.2.2 ef eg ex eF pf pg px pF = wS a cB cI cL h1 h2 s1 s2 op (nx + (bv dn dg b 1)) wt sf lf dn dg un (umk un b 1 1 ug 0) qn qt qg ((rlI dn dg b nx (bv dn dg b 1) 0 (tn, tk, tv, ts)).1) ((rlI dn dg b nx (bv dn dg b 1) 0 (tn, tk, tv, ts)).2.1) T'.2.2.1 T'.2.2.2 ef eg ex eF pf pg px pF := by rw [← e2]
        have hP := x_wP h9 hP
        have hD := x_wD h9 hD
        have e3 : T'.2.2.1 = ((rlI dn dg b nx (bv dn dg b 1) 0 (tn, tk, tv, ts)).2.2.1) := by rw [zz]
        have h9 : wS a cB cI cL h1 h2 s1 s2 op (nx + (bv dn dg b 1)) wt sf lf dn dg un (umk un b 1 1 ug 0) qn qt qg ((rlI dn dg b nx (bv dn dg b 1) 0 (tn, tk, tv, ts)).1) ((rlI dn dg b nx (bv dn dg b 1) 0 (tn, tk, tv, ts)).2.1) T'.2.2.1 T'.2.2.2 ef eg ex eF pf pg px pF = wS a cB cI cL h1 h2 s1 s2 op (nx + (bv dn dg b 1)) wt sf lf dn dg un (umk un b 1 1 ug 0) qn qt qg ((rlI dn dg b nx (bv dn dg b 1) 0 (tn, tk, tv, ts)).1) ((rlI dn dg b nx (bv dn dg b 1) 0 (tn, tk, tv, ts)).2.1) ((rlI dn dg b nx (bv dn dg b 1) 0 (tn, tk, tv, ts)).2.2.1) T'.2.2.2 ef eg ex eF pf pg px pF := by rw [← e3]
        have hP := x_wP h9 hP
        have hD := x_wD h9 hD
        have e4 : T'.2.2.2 = ((rlI dn dg b nx (bv dn dg b 1) 0 (tn, tk, tv, ts)).2.2.2) := by rw [zz]
        have h9 : wS a cB cI cL h1 h2 s1 s2 op (nx + (bv dn dg b 1)) wt sf lf dn dg un (umk un b 1 1 ug 0) qn qt qg ((rlI dn dg b nx (bv dn dg b 1) 0 (tn, tk, tv, ts)).1) ((rlI dn dg b nx (bv dn dg b 1) 0 (tn, tk, tv, ts)).2.1) ((rlI dn dg b nx (bv dn dg b 1) 0 (tn, tk, tv, ts)).2.2.1) T'.2.2.2 ef eg ex eF pf pg px pF = wS a cB cI cL h1 h2 s1 s2 op (nx + (bv dn dg b 1)) wt sf lf dn dg un (umk un b 1 1 ug 0) qn qt qg ((rlI dn dg b nx (bv dn dg b 1) 0 (tn, tk, tv, ts)).1) ((rlI dn dg b nx (bv dn dg b 1) 0 (tn, tk, tv, ts)).2.1) ((rlI dn dg b nx (bv dn dg b 1) 0 (tn, tk, tv, ts)).2.2.1) ((rlI dn dg b nx (bv dn dg b 1) 0 (tn, tk, tv, ts)).2.2.2) ef eg ex eF pf pg px pF := by rw [← e4]
        have hP := x_wP h9 hP
        have hD := x_wD h9 hD
        exact hret dX5_readLogBlock_55 hP hD hS
      · refine lv_aload_n hx hb dX5_readLogBlock_17 rfl (lv_at hl 0 rfl) ?_
        refine lv_iload_n hx hb dX5_readLogBlock_18 rfl (lv_at hl 1 rfl) ?_
        refine lv_iload_n hx hb dX5_readLogBlock_19 rfl (lv_at hl 3 rfl) ?_
        refine lv_aload_n hx hb dX5_readLogBlock_20 rfl (lv_at hl 0 rfl) ?_
        refine va_get (D := (dC, dI)) (ci := 5) (v := .int (nI nx)) (C := RX5) (T := TX5) (N := 11) hx hb hts in_X5 hown hK hP 0 rfl rfl 7 (by decide) f53 (fun _ h9 => h9) rfl dX5_readLogBlock_21 ?_
        refine lv_iload_n hx hb dX5_readLogBlock_24 rfl (lv_at hl 3 rfl) ?_
        refine x_iadd hx hb dX5_readLogBlock_25 ?_
        refine x_callv (va_runV (As := [.int (nI b), .int (nI j), .int (nI (nx + j))]) (rest := []) ⟨hx, hb, hml, hown, hts⟩ (c_SL_readRecord (by omega) (by omega) hdg i12_2 b j (nx + j) (by omega) (by omega) (by omega)) (cwV 3 hts (tbV tw_487 tw_489 tw_48 tw_84 tw_490) rfl rfl rfl (by decide +kernel) ⟨Nat.le_of_ble_eq_true rfl, Nat.le_of_ble_eq_true rfl⟩) ⟨x_blind, va_recv hK hP (ci := 5) (q0 := 0) rfl rfl, x_pre hK hP hD hN⟩ rfl rfl hl.1 rfl (lv_room (Nat.le_of_ble_eq_true rfl)) dX5_readLogBlock_26 ⟨Nat.zero_le _, Nat.zero_le _⟩) hS (fun H locs hP hD hS => ?_)
        have hP : va_P (dC, dI) vwCl (wS a cB cI cL h1 h2 s1 s2 op nx wt sf lf dn dg un ug qn qt qg ((rdR dn dg b j (nx + j) T').1) ((rdR dn dg b j (nx + j) T').2.1) ((rdR dn dg b j (nx + j) T').2.2.1) ((rdR dn dg b j (nx + j) T').2.2.2) ef eg ex eF pf pg px pF) H := hP
        have hD : va_D A (wS a cB cI cL h1 h2 s1 s2 op nx wt sf lf dn dg un ug qn qt qg ((rdR dn dg b j (nx + j) T').1) ((rdR dn dg b j (nx + j) T').2.1) ((rdR dn dg b j (nx + j) T').2.2.1) ((rdR dn dg b j (nx + j) T').2.2.2) ef eg ex eF pf pg px pF) := hD
        refine lv_iinc (v := nI (j + 1)) (lv' := [(3, .int (nI (j + 1))), (0, .ref (a 0)), (1, .int (nI b)), (2, .int (nI (bv dn dg b 1)))]) hx hb dX5_readLogBlock_29 hl (k := 3) rfl (x_inc _) (by decide) rfl (fun ls hl => ?_)
        refine lv_goto (tgt := 12) hx hb dX5_readLogBlock_32 (by decide) ?_
        exact ih12 (j + 1) (rdR dn dg b j (nx + j) T') (by omega) (by omega) (by exact rdR_le i12_1) (by exact rdR_lt i12_2 (by omega)) (by have h := i12_3; rw [show bv dn dg b 1 - j = (bv dn dg b 1 - (j + 1)) + 1 by omega, rlI] at h; exact h) _ _ hP hD hS ls (lv_sub hl [1, 2, 3, 0] rfl)
  have e5 : tn = ((tn, tk, tv, ts).1) := by rfl
  have e6 : tk = ((tn, tk, tv, ts).2.1) := by rfl
  have e7 : tv = ((tn, tk, tv, ts).2.2.1) := by rfl
  have e8 : ts = ((tn, tk, tv, ts).2.2.2) := by rfl
  exact L12 (bv dn dg b 1 - 0 + 1) 0 (tn, tk, tv, ts) (by omega) (by omega) (by exact htn) (by exact hs) (by rfl) _ _ (x_wP (by rw [← e5, ← e6, ← e7, ← e8]) hP) (x_wD (by rw [← e5, ← e6, ← e7, ← e8]) hD) hS ls (lv_sub hl [2, 3, 1, 0] rfl)

set_option maxHeartbeats 4000000 in
set_option maxRecDepth 100000 in
theorem c_SL_wipeOldLog {l : Launch} {dC : Nat → ClassId} {dI : Nat → Nat → Nat} {A : Nat → Prop} {a : Nat → Nat} {cB cI cL : ClassId} {h1 h2 s1 s2 : Nat} {op : Bool} {nx wt sf lf dn : Nat} {dg : Nat → Nat} {un : Nat} {ug : Nat → Nat} {qn : Nat} {qt qg : Nat → Nat} {tn : Nat} {tk tv : Nat → Int64} {ts : Nat → Nat} {ef eg ex : Nat} {eF : Nat → Nat} {pf pg px : Nat} {pF : Nat → Nat} (hdn : dn ≤ 64) (hun : un ≤ 64) (hdg : ∀ j, dg j < 256) (hug : ∀ j, ug j < 8) : Met l yX5_wipeOldLog (Cond.code yX5_wipeOldLog cX5_wipeOldLog 2 none :: TB) { frames := 3, cells := 0, slots := 0, locals := 67 } (xPre Nst (dC, dI) A (tyS cB cI cL) (wS a cB cI cL h1 h2 s1 s2 op nx wt sf lf dn dg un ug qn qt qg tn tk tv ts ef eg ex eF pf pg px pF) [.ref (a 0)]) (xQv (dC, dI) A (wS a cB cI cL h1 h2 s1 s2 op nx wt sf lf dn (wol dn un ug (dn - 2) 2 dg) un (utn 4 0 un ug 0) qn qt qg tn tk tv ts ef eg ex eF pf pg px pF)) 0 0 A := by
  refine x_ofWv (cc := cX5_wipeOldLog) (maxL := 2) (by decide) rfl (Nat.le_of_ble_eq_true rfl) ?_
  intro p e s m args below meth c Q hx hb hml hts hown hK hN hP hD hS hret ls hl
  have hl : lv_has ls 2 [(0, .ref (a 0))] := hl
  have hown : s.vm.findClass RX5 = some m.cls := hown
  have f14 := hts _ (List.mem_cons_of_mem _ tw_208)
  have in_X5 := (fun q hq => List.mem_cons_of_mem _ (inX5 q hq) : ∀ q ∈ wsX50, q ∈ (Cond.code yX5_wipeOldLog cX5_wipeOldLog 2 none :: TB))
  have f173 := hN (.fieldLinkNest RX5 173 "SegmentLog$Blocks" "size" "I" "SegmentLog") (by decide +kernel)
  have in_X0 := (fun q hq => List.mem_cons_of_mem _ (inX0 q hq) : ∀ q ∈ wsX00, q ∈ (Cond.code yX5_wipeOldLog cX5_wipeOldLog 2 none :: TB))
  have f21 := hts _ (List.mem_cons_of_mem _ tw_209)
  have n244 := hN (.methodLinkNest RX5 244 yX4_turn "SegmentLog") (by decide +kernel)
  have ini_X4 := hts _ (List.mem_cons_of_mem _ tw_86)
  have im_yX4_turn := hts _ (List.mem_cons_of_mem _ tw_424)
  have se_yX4_turn := hts _ (List.mem_cons_of_mem _ tw_37)
  have n164 := hN (.methodLinkNest RX5 164 yX4_of "SegmentLog") (by decide +kernel)
  have im_yX4_of := hts _ (List.mem_cons_of_mem _ tw_500)
  have se_yX4_of := hts _ (List.mem_cons_of_mem _ tw_50)
  have n277 := hN (.methodLinkNest RX5 277 yX0_wipe "SegmentLog") (by decide +kernel)
  have ini_X0 := hts _ (List.mem_cons_of_mem _ tw_85)
  have im_yX0_wipe := hts _ (List.mem_cons_of_mem _ tw_252)
  have se_yX0_wipe := hts _ (List.mem_cons_of_mem _ tw_4)
  refine lv_iconst (v := nI 2) hx hb dX5_wipeOldLog_0 (by decide) ?_
  refine lv_istore_n (lv' := [(1, .int (nI 2)), (0, .ref (a 0))]) hx hb dX5_wipeOldLog_1 rfl hl (by decide) rfl (fun ls hl => ?_)
  have L2 : ∀ (fu2 : Nat) (b : Nat) (d' : Nat → Nat), (dn - b < fu2) → (2 ≤ b ∧ b ≤ 64) → (∀ q, d' q < 256) → (wol dn un ug (dn - b) b d' = wol dn un ug (dn - 2) 2 dg) → ∀ (H : Heap) (locs : List Loc), va_P (dC, dI) vwCl (wS a cB cI cL h1 h2 s1 s2 op nx wt sf lf dn d' un ug qn qt qg tn tk tv ts ef eg ex eF pf pg px pF) H → va_D A (wS a cB cI cL h1 h2 s1 s2 op nx wt sf lf dn d' un ug qn qt qg tn tk tv ts ef eg ex eF pf pg px pF) → va_S A s.heap H locs → ∀ (ls : Array Slot), lv_has ls 2 [(0, .ref (a 0)), (1, .int (nI b))] → W p l e { frames := 3, cells := 0, slots := 0, locals := 67 } s m args below meth c H locs 0 0 Q (F0 m 2 ls []) := by
    intro fu2
    induction fu2 with
    | zero => intro b d' hm; exact absurd hm (Nat.not_lt_zero _)
    | succ fu2 ih2 =>
      intro b d' hm i2_0 i2_1 i2_2 H locs hP hD hS ls hl
      refine lv_iload_n hx hb dX5_wipeOldLog_2 rfl (lv_at hl 1 rfl) ?_
      refine lv_aload_n hx hb dX5_wipeOldLog_3 rfl (lv_at hl 0 rfl) ?_
      refine va_get (D := (dC, dI)) (ci := 5) (v := .ref (a 1)) (C := RX5) (T := TX5) (N := 11) hx hb hts in_X5 hown hK hP 0 rfl rfl 0 (by decide) f14 (fun _ h9 => h9) rfl dX5_wipeOldLog_4 ?_
      refine va_getN (D := (dC, dI)) (ci := 0) (v := .int (nI dn)) (C := RX0) (T := TX0) (N := 2) hx hb hts in_X0 hown hK hP 1 rfl rfl 1 (by decide) (va_Nw.use (A := args) rfl f173) (fun _ h9 => h9) rfl dX5_wipeOldLog_7 ?_
      refine x_icmp_ge (tgt := 39) hx hb dX5_wipeOldLog_10 (by decide) (by omega) (by omega) (fun c10 => ?_) (fun c10 => ?_)
      · refine lv_aload_n hx hb dX5_wipeOldLog_39 rfl (lv_at hl 0 rfl) ?_
        refine va_get (D := (dC, dI)) (ci := 5) (v := .ref (a 3)) (C := RX5) (T := TX5) (N := 11) hx hb hts in_X5 hown hK hP 0 rfl rfl 1 (by decide) f21 (fun _ h9 => h9) rfl dX5_wipeOldLog_40 ?_
        refine lv_iconst (v := nI 4) hx hb dX5_wipeOldLog_43 (by decide) ?_
        refine lv_iconst (v := nI 0) hx hb dX5_wipeOldLog_44 (by decide) ?_
        refine x_callv (va_runVN (As := [.int (nI 4), .int (nI 0)]) (rest := []) ⟨hx, hb, hml, hown, hts⟩ (c_Us_turn (show okU (fun ug' => wS a cB cI cL h1 h2 s1 s2 op nx wt sf lf dn d' un ug' qn qt qg tn tk tv ts ef eg ex eF pf pg px pF) 3 4 (a 3) (a 4) cI un from ⟨fun _ => rfl, fun _ => rfl, fun _ _ => rfl⟩) (tyS_I cB cI cL) (by omega) ug hug 4 0 (by omega) (by omega)) ⟨(va_cnB 2 hts (tbG tw_425) rfl rfl rfl n244 ini_X4 (by decide +kernel) ⟨Nat.le_of_ble_eq_true rfl, Nat.le_of_ble_eq_true rfl⟩), im_yX4_turn, se_yX4_turn⟩ ⟨x_blind, va_recv hK hP (ci := 4) (q0 := 3) rfl rfl, x_pre hK hP hD hN⟩ rfl rfl hl.1 rfl (lv_room (Nat.le_of_ble_eq_true rfl)) dX5_wipeOldLog_45 ⟨Nat.zero_le _, Nat.zero_le _⟩) hS (fun H locs hP hD hS => ?_)
        have hP : va_P (dC, dI) vwCl (wS a cB cI cL h1 h2 s1 s2 op nx wt sf lf dn d' un (utn 4 0 un ug 0) qn qt qg tn tk tv ts ef eg ex eF pf pg px pF) H := hP
        have hD : va_D A (wS a cB cI cL h1 h2 s1 s2 op nx wt sf lf dn d' un (utn 4 0 un ug 0) qn qt qg tn tk tv ts ef eg ex eF pf pg px pF) := hD
        have e1 : d' = (wol dn un ug (dn - 2) 2 dg) := by have h := i2_2; rw [show dn - b = 0 by omega] at h; exact h
        have h9 : wS a cB cI cL h1 h2 s1 s2 op nx wt sf lf dn d' un (utn 4 0 un ug 0) qn qt qg tn tk tv ts ef eg ex eF pf pg px pF = wS a cB cI cL h1 h2 s1 s2 op nx wt sf lf dn (wol dn un ug (dn - 2) 2 dg) un (utn 4 0 un ug 0) qn qt qg tn tk tv ts ef eg ex eF pf pg px pF := by rw [← e1]
        have hP := x_wP h9 hP
        have hD := x_wD h9 hD
        exact hret dX5_wipeOldLog_48 hP hD hS
      · refine lv_aload_n hx hb dX5_wipeOldLog_13 rfl (lv_at hl 0 rfl) ?_
        refine va_get (D := (dC, dI)) (ci := 5) (v := .ref (a 3)) (C := RX5) (T := TX5) (N := 11) hx hb hts in_X5 hown hK hP 0 rfl rfl 1 (by decide) f21 (fun _ h9 => h9) rfl dX5_wipeOldLog_14 ?_
        refine lv_iload_n hx hb dX5_wipeOldLog_17 rfl (lv_at hl 1 rfl) ?_
        refine x_calli (va_runVN (As := [.int (nI b)]) (rest := []) ⟨hx, hb, hml, hown, hts⟩ (c_Us_of (show okU (fun ug' => wS a cB cI cL h1 h2 s1 s2 op nx wt sf lf dn d' un ug' qn qt qg tn tk tv ts ef eg ex eF pf pg px pF) 3 4 (a 3) (a 4) cI un from ⟨fun _ => rfl, fun _ => rfl, fun _ _ => rfl⟩) (tyS_I cB cI cL) (by omega) ug hug b (by omega)) ⟨(va_cnB 1 hts (tbG tw_501) rfl rfl rfl n164 ini_X4 (by decide +kernel) ⟨Nat.le_of_ble_eq_true rfl, Nat.le_of_ble_eq_true rfl⟩), im_yX4_of, se_yX4_of⟩ ⟨x_blind, va_recv hK hP (ci := 4) (q0 := 3) rfl rfl, x_pre hK hP hD hN⟩ rfl rfl hl.1 rfl (lv_room (Nat.le_of_ble_eq_true rfl)) dX5_wipeOldLog_18 ⟨Nat.zero_le _, Nat.zero_le _⟩) hS (fun H locs hP hD hS => ?_)
        have hP : va_P (dC, dI) vwCl (wS a cB cI cL h1 h2 s1 s2 op nx wt sf lf dn d' un ug qn qt qg tn tk tv ts ef eg ex eF pf pg px pF) H := hP
        have hD : va_D A (wS a cB cI cL h1 h2 s1 s2 op nx wt sf lf dn d' un ug qn qt qg tn tk tv ts ef eg ex eF pf pg px pF) := hD
        have hv18 : uof un ug b < 8 := uof_lt hug
        refine lv_iconst (v := nI 4) hx hb dX5_wipeOldLog_21 (by decide) ?_
        refine x_icmp_ne (tgt := 33) hx hb dX5_wipeOldLog_22 (by decide) (by omega) (by omega) (fun c22 => ?_) (fun c22 => ?_)
        · refine lv_iinc (v := nI (b + 1)) (lv' := [(1, .int (nI (b + 1))), (0, .ref (a 0))]) hx hb dX5_wipeOldLog_33 hl (k := 1) rfl (x_inc _) (by decide) rfl (fun ls hl => ?_)
          refine lv_goto (tgt := 2) hx hb dX5_wipeOldLog_36 (by decide) ?_
          exact ih2 (b + 1) d' (by omega) (by omega) (by first | exact i2_1 | exact wipG_lt i2_1) (by have h := i2_2; rw [show dn - b = (dn - (b + 1)) + 1 by omega, wol] at h; first | (rw [if_pos c22] at h; exact h) | (rw [if_neg c22] at h; exact h)) _ _ hP hD hS ls (lv_sub hl [1, 0] rfl)
        · refine lv_aload_n hx hb dX5_wipeOldLog_25 rfl (lv_at hl 0 rfl) ?_
          refine va_get (D := (dC, dI)) (ci := 5) (v := .ref (a 1)) (C := RX5) (T := TX5) (N := 11) hx hb hts in_X5 hown hK hP 0 rfl rfl 0 (by decide) f14 (fun _ h9 => h9) rfl dX5_wipeOldLog_26 ?_
          refine lv_iload_n hx hb dX5_wipeOldLog_29 rfl (lv_at hl 1 rfl) ?_
          refine x_callv (va_runVN (As := [.int (nI b)]) (rest := []) ⟨hx, hb, hml, hown, hts⟩ (c_Bl_wipe (show okB (fun dg' => wS a cB cI cL h1 h2 s1 s2 op nx wt sf lf dn dg' un ug qn qt qg tn tk tv ts ef eg ex eF pf pg px pF) 1 2 (a 1) (a 2) cB dn from ⟨fun _ => rfl, fun _ => rfl, fun _ _ => rfl⟩) (tyS_B cB cI cL) (by omega) d' i2_1 b (by omega)) ⟨(va_cnB 1 hts (tbG tw_253) rfl rfl rfl n277 ini_X0 (by decide +kernel) ⟨Nat.le_of_ble_eq_true rfl, Nat.le_of_ble_eq_true rfl⟩), im_yX0_wipe, se_yX0_wipe⟩ ⟨x_blind, va_recv hK hP (ci := 0) (q0 := 1) rfl rfl, x_pre hK hP hD hN⟩ rfl rfl hl.1 rfl (lv_room (Nat.le_of_ble_eq_true rfl)) dX5_wipeOldLog_30 ⟨Nat.zero_le _, Nat.zero_le _⟩) hS (fun H locs hP hD hS => ?_)
          have hP : va_P (dC, dI) vwCl (wS a cB cI cL h1 h2 s1 s2 op nx wt sf lf dn (wipG dn b d') un ug qn qt qg tn tk tv ts ef eg ex eF pf pg px pF) H := hP
          have hD : va_D A (wS a cB cI cL h1 h2 s1 s2 op nx wt sf lf dn (wipG dn b d') un ug qn qt qg tn tk tv ts ef eg ex eF pf pg px pF) := hD
          refine lv_iinc (v := nI (b + 1)) (lv' := [(1, .int (nI (b + 1))), (0, .ref (a 0))]) hx hb dX5_wipeOldLog_33 hl (k := 1) rfl (x_inc _) (by decide) rfl (fun ls hl => ?_)
          refine lv_goto (tgt := 2) hx hb dX5_wipeOldLog_36 (by decide) ?_
          exact ih2 (b + 1) (wipG dn b d') (by omega) (by omega) (by first | exact i2_1 | exact wipG_lt i2_1) (by have h := i2_2; rw [show dn - b = (dn - (b + 1)) + 1 by omega, wol] at h; first | (rw [if_pos c22] at h; exact h) | (rw [if_neg c22] at h; exact h)) _ _ hP hD hS ls (lv_sub hl [1, 0] rfl)
  exact L2 (dn - 2 + 1) 2 dg (by omega) (by omega) (by exact hdg) (by rfl) _ _ hP hD hS ls (lv_sub hl [1, 0] rfl)

set_option maxHeartbeats 4000000 in
set_option maxRecDepth 100000 in
theorem c_SL_replayLog {l : Launch} {dC : Nat → ClassId} {dI : Nat → Nat → Nat} {A : Nat → Prop} {a : Nat → Nat} {cB cI cL : ClassId} {h1 h2 s1 s2 : Nat} {op : Bool} {nx wt sf lf dn : Nat} {dg : Nat → Nat} {un : Nat} {ug : Nat → Nat} {qn : Nat} {qt qg : Nat → Nat} {tn : Nat} {tk tv : Nat → Int64} {ts : Nat → Nat} {ef eg ex : Nat} {eF : Nat → Nat} {pf pg px : Nat} {pF : Nat → Nat} (hdn : dn ≤ 64) (hun : un ≤ 64) (htn : tn ≤ 192) (hdg : ∀ j, dg j < 256) (hug : ∀ j, ug j < 8) (hs : ∀ j, ts j < 2 ^ 31) (hnx : nx < 2 ^ 30) (hn1 : nx + 255 * dn < 2 ^ 30) : Met l yX5_replayLog (Cond.code yX5_replayLog cX5_replayLog 3 none :: TB) { frames := 5, cells := 0, slots := 0, locals := 117 } (xPre Nst (dC, dI) A (tyS cB cI cL) (wS a cB cI cL h1 h2 s1 s2 op nx wt sf lf dn dg un ug qn qt qg tn tk tv ts ef eg ex eF pf pg px pF) [.ref (a 0)]) (xQv (dC, dI) A (wS a cB cI cL h1 h2 s1 s2 op ((rpl dn dg un dn ((tn, tk, tv, ts), nx, mol dn dg un (dn - 2) 2 ug)).2.1) wt sf lf dn (wol dn un (rpl dn dg un dn ((tn, tk, tv, ts), nx, mol dn dg un (dn - 2) 2 ug)).2.2 (dn - 2) 2 dg) un (utn 4 0 un (rpl dn dg un dn ((tn, tk, tv, ts), nx, mol dn dg un (dn - 2) 2 ug)).2.2 0) qn qt qg (((rpl dn dg un dn ((tn, tk, tv, ts), nx, mol dn dg un (dn - 2) 2 ug)).1).1) (((rpl dn dg un dn ((tn, tk, tv, ts), nx, mol dn dg un (dn - 2) 2 ug)).1).2.1) (((rpl dn dg un dn ((tn, tk, tv, ts), nx, mol dn dg un (dn - 2) 2 ug)).1).2.2.1) (((rpl dn dg un dn ((tn, tk, tv, ts), nx, mol dn dg un (dn - 2) 2 ug)).1).2.2.2) ef eg ex eF pf pg px pF)) 0 0 A := by
  refine x_ofWv (cc := cX5_replayLog) (maxL := 3) (by decide) rfl (Nat.le_of_ble_eq_true rfl) ?_
  intro p e s m args below meth c Q hx hb hml hts hown hK hN hP hD hS hret ls hl
  have hl : lv_has ls 3 [(0, .ref (a 0))] := hl
  have hown : s.vm.findClass RX5 = some m.cls := hown
  have f14 := hts _ (List.mem_cons_of_mem _ tw_208)
  have in_X5 := (fun q hq => List.mem_cons_of_mem _ (inX5 q hq) : ∀ q ∈ wsX50, q ∈ (Cond.code yX5_replayLog cX5_replayLog 3 none :: TB))
  have f173 := hN (.fieldLinkNest RX5 173 "SegmentLog$Blocks" "size" "I" "SegmentLog") (by decide +kernel)
  have in_X0 := (fun q hq => List.mem_cons_of_mem _ (inX0 q hq) : ∀ q ∈ wsX00, q ∈ (Cond.code yX5_replayLog cX5_replayLog 3 none :: TB))
  have f21 := hts _ (List.mem_cons_of_mem _ tw_209)
  have n164 := hN (.methodLinkNest RX5 164 yX4_of "SegmentLog") (by decide +kernel)
  have ini_X4 := hts _ (List.mem_cons_of_mem _ tw_86)
  have im_yX4_of := hts _ (List.mem_cons_of_mem _ tw_500)
  have se_yX4_of := hts _ (List.mem_cons_of_mem _ tw_50)
  have n177 := hN (.methodLinkNest RX5 177 yX0_isWhole "SegmentLog") (by decide +kernel)
  have ini_X0 := hts _ (List.mem_cons_of_mem _ tw_85)
  have im_yX0_isWhole := hts _ (List.mem_cons_of_mem _ tw_448)
  have se_yX0_isWhole := hts _ (List.mem_cons_of_mem _ tw_41)
  have n167 := hN (.methodLinkNest RX5 167 yX0_value "SegmentLog") (by decide +kernel)
  have im_yX0_value := hts _ (List.mem_cons_of_mem _ tw_345)
  have se_yX0_value := hts _ (List.mem_cons_of_mem _ tw_25)
  have n225 := hN (.methodLinkNest RX5 225 yX4_mark "SegmentLog") (by decide +kernel)
  have im_yX4_mark := hts _ (List.mem_cons_of_mem _ tw_131)
  have se_yX4_mark := hts _ (List.mem_cons_of_mem _ tw_1)
  refine lv_iconst (v := nI 2) hx hb dX5_replayLog_0 (by decide) ?_
  refine lv_istore_n (lv' := [(1, .int (nI 2)), (0, .ref (a 0))]) hx hb dX5_replayLog_1 rfl hl (by decide) rfl (fun ls hl => ?_)
  have L2 : ∀ (fu2 : Nat) (b : Nat) (u' : Nat → Nat), (dn - b < fu2) → (2 ≤ b ∧ b ≤ 64) → (∀ q, u' q < 8) → (mol dn dg un (dn - b) b u' = mol dn dg un (dn - 2) 2 ug) → ∀ (H : Heap) (locs : List Loc), va_P (dC, dI) vwCl (wS a cB cI cL h1 h2 s1 s2 op nx wt sf lf dn dg un u' qn qt qg tn tk tv ts ef eg ex eF pf pg px pF) H → va_D A (wS a cB cI cL h1 h2 s1 s2 op nx wt sf lf dn dg un u' qn qt qg tn tk tv ts ef eg ex eF pf pg px pF) → va_S A s.heap H locs → ∀ (ls : Array Slot), lv_has ls 3 [(0, .ref (a 0)), (1, .int (nI b))] → W p l e { frames := 5, cells := 0, slots := 0, locals := 117 } s m args below meth c H locs 0 0 Q (F0 m 2 ls []) := by
    intro fu2
    induction fu2 with
    | zero => intro b u' hm; exact absurd hm (Nat.not_lt_zero _)
    | succ fu2 ih2 =>
      intro b u' hm i2_0 i2_1 i2_2 H locs hP hD hS ls hl
      refine lv_iload_n hx hb dX5_replayLog_2 rfl (lv_at hl 1 rfl) ?_
      refine lv_aload_n hx hb dX5_replayLog_3 rfl (lv_at hl 0 rfl) ?_
      refine va_get (D := (dC, dI)) (ci := 5) (v := .ref (a 1)) (C := RX5) (T := TX5) (N := 11) hx hb hts in_X5 hown hK hP 0 rfl rfl 0 (by decide) f14 (fun _ h9 => h9) rfl dX5_replayLog_4 ?_
      refine va_getN (D := (dC, dI)) (ci := 0) (v := .int (nI dn)) (C := RX0) (T := TX0) (N := 2) hx hb hts in_X0 hown hK hP 1 rfl rfl 1 (by decide) (va_Nw.use (A := args) rfl f173) (fun _ h9 => h9) rfl dX5_replayLog_7 ?_
      refine x_icmp_ge (tgt := 64) hx hb dX5_replayLog_10 (by decide) (by omega) (by omega) (fun c10 => ?_) (fun c10 => ?_)
      · have zm := i2_2
        rw [show dn - b = 0 by omega, mol] at zm
        subst zm
        refine lv_aload_n hx hb dX5_replayLog_64 rfl (lv_at hl 0 rfl) ?_
        refine x_calli (va_runV (As := []) (rest := []) ⟨hx, hb, hml, hown, hts⟩ (c_SL_nextLogBlock (by omega) (by omega) hdg i2_1 (by omega)) (cwV 0 hts (tbV tw_502 tw_504 tw_51 tw_84 tw_505) rfl rfl rfl (by decide +kernel) ⟨Nat.le_of_ble_eq_true rfl, Nat.le_of_ble_eq_true rfl⟩) ⟨x_blind, va_recv hK hP (ci := 5) (q0 := 0) rfl rfl, x_pre hK hP hD hN⟩ rfl rfl hl.1 rfl (lv_room (Nat.le_of_ble_eq_true rfl)) dX5_replayLog_65 ⟨Nat.zero_le _, Nat.zero_le _⟩) hS (fun H locs hP hD hS => ?_)
        have hP : va_P (dC, dI) vwCl (wS a cB cI cL h1 h2 s1 s2 op nx wt sf lf dn dg un (mol dn dg un (dn - 2) 2 ug) qn qt qg tn tk tv ts ef eg ex eF pf pg px pF) H := hP
        have hD : va_D A (wS a cB cI cL h1 h2 s1 s2 op nx wt sf lf dn dg un (mol dn dg un (dn - 2) 2 ug) qn qt qg tn tk tv ts ef eg ex eF pf pg px pF) := hD
        refine lv_istore_n (lv' := [(1, .int (oI (nlb dn dg un (mol dn dg un (dn - 2) 2 ug) nx (dn - 2) 2))), (0, .ref (a 0))]) hx hb dX5_replayLog_68 rfl hl (by decide) rfl (fun ls hl => ?_)
        refine lv_iconst (v := nI 0) hx hb dX5_replayLog_69 (by decide) ?_
        refine lv_istore_n (lv' := [(2, .int (nI 0)), (1, .int (oI (nlb dn dg un (mol dn dg un (dn - 2) 2 ug) nx (dn - 2) 2))), (0, .ref (a 0))]) hx hb dX5_replayLog_70 rfl hl (by decide) rfl (fun ls hl => ?_)
        have L71 : ∀ (fu71 : Nat) (t : Nat) (S' : RS), (dn - t < fu71) → (t ≤ dn) → (S'.2.1 + 255 * (dn - t) < 2 ^ 30) → (S'.1.1 ≤ 192) → (∀ q, S'.1.2.2.2 q < 2 ^ 31) → (∀ q, S'.2.2 q < 8) → (rpl dn dg un (dn - t) S' = rpl dn dg un dn ((tn, tk, tv, ts), nx, mol dn dg un (dn - 2) 2 ug)) → ∀ (H : Heap) (locs : List Loc), va_P (dC, dI) vwCl (wS a cB cI cL h1 h2 s1 s2 op S'.2.1 wt sf lf dn dg un S'.2.2 qn qt qg S'.1.1 S'.1.2.1 S'.1.2.2.1 S'.1.2.2.2 ef eg ex eF pf pg px pF) H → va_D A (wS a cB cI cL h1 h2 s1 s2 op S'.2.1 wt sf lf dn dg un S'.2.2 qn qt qg S'.1.1 S'.1.2.1 S'.1.2.2.1 S'.1.2.2.2 ef eg ex eF pf pg px pF) → va_S A s.heap H locs → ∀ (ls : Array Slot), lv_has ls 3 [(0, .ref (a 0)), (1, .int (oI (nlb dn dg un S'.2.2 S'.2.1 (dn - 2) 2))), (2, .int (nI t))] → W p l e { frames := 5, cells := 0, slots := 0, locals := 117 } s m args below meth c H locs 0 0 Q (F0 m 71 ls []) := by
          intro fu71
          induction fu71 with
          | zero => intro t S' hm; exact absurd hm (Nat.not_lt_zero _)
          | succ fu71 ih71 =>
            intro t S' hm i71_0 i71_1 i71_2 i71_3 i71_4 i71_5 H locs hP hD hS ls hl
            refine lv_iload_n hx hb dX5_replayLog_71 rfl (lv_at hl 2 rfl) ?_
            refine lv_aload_n hx hb dX5_replayLog_72 rfl (lv_at hl 0 rfl) ?_
            refine va_get (D := (dC, dI)) (ci := 5) (v := .ref (a 1)) (C := RX5) (T := TX5) (N := 11) hx hb hts in_X5 hown hK hP 0 rfl rfl 0 (by decide) f14 (fun _ h9 => h9) rfl dX5_replayLog_73 ?_
            refine va_getN (D := (dC, dI)) (ci := 0) (v := .int (nI dn)) (C := RX0) (T := TX0) (N := 2) hx hb hts in_X0 hown hK hP 1 rfl rfl 1 (by decide) (va_Nw.use (A := args) rfl f173) (fun _ h9 => h9) rfl dX5_replayLog_76 ?_
            refine x_icmp_ge (tgt := 104) hx hb dX5_replayLog_79 (by decide) (by omega) (by omega) (fun c79 => ?_) (fun c79 => ?_)
            · rw [show dn - t = 0 by omega, rpl] at i71_5
              refine lv_aload_n hx hb dX5_replayLog_104 rfl (lv_at hl 0 rfl) ?_
              refine x_callv (va_runV (As := []) (rest := []) ⟨hx, hb, hml, hown, hts⟩ (c_SL_wipeOldLog (by omega) (by omega) hdg i71_4) (cwV 0 hts (tbV tw_510 tw_512 tw_53 tw_84 tw_513) rfl rfl rfl (by decide +kernel) ⟨Nat.le_of_ble_eq_true rfl, Nat.le_of_ble_eq_true rfl⟩) ⟨x_blind, va_recv hK hP (ci := 5) (q0 := 0) rfl rfl, x_pre hK hP hD hN⟩ rfl rfl hl.1 rfl (lv_room (Nat.le_of_ble_eq_true rfl)) dX5_replayLog_105 ⟨Nat.zero_le _, Nat.zero_le _⟩) hS (fun H locs hP hD hS => ?_)
              have hP : va_P (dC, dI) vwCl (wS a cB cI cL h1 h2 s1 s2 op S'.2.1 wt sf lf dn (wol dn un S'.2.2 (dn - 2) 2 dg) un (utn 4 0 un S'.2.2 0) qn qt qg S'.1.1 S'.1.2.1 S'.1.2.2.1 S'.1.2.2.2 ef eg ex eF pf pg px pF) H := hP
              have hD : va_D A (wS a cB cI cL h1 h2 s1 s2 op S'.2.1 wt sf lf dn (wol dn un S'.2.2 (dn - 2) 2 dg) un (utn 4 0 un S'.2.2 0) qn qt qg S'.1.1 S'.1.2.1 S'.1.2.2.1 S'.1.2.2.2 ef eg ex eF pf pg px pF) := hD
              have e1 : S'.2.1 = ((rpl dn dg un dn ((tn, tk, tv, ts), nx, mol dn dg un (dn - 2) 2 ug)).2.1) := by rw [i71_5]
              have h9 : wS a cB cI cL h1 h2 s1 s2 op S'.2.1 wt sf lf dn (wol dn un S'.2.2 (dn - 2) 2 dg) un (utn 4 0 un S'.2.2 0) qn qt qg S'.1.1 S'.1.2.1 S'.1.2.2.1 S'.1.2.2.2 ef eg ex eF pf pg px pF = wS a cB cI cL h1 h2 s1 s2 op ((rpl dn dg un dn ((tn, tk, tv, ts), nx, mol dn dg un (dn - 2) 2 ug)).2.1) wt sf lf dn (wol dn un S'.2.2 (dn - 2) 2 dg) un (utn 4 0 un S'.2.2 0) qn qt qg S'.1.1 S'.1.2.1 S'.1.2.2.1 S'.1.2.2.2 ef eg ex eF pf pg px pF := by rw [← e1]
              have hP := x_wP h9 hP
              have hD := x_wD h9 hD
              have e2 : (wol dn un S'.2.2 (dn - 2) 2 dg) = (wol dn un (rpl dn dg un dn ((tn, tk, tv, ts), nx, mol dn dg un (dn - 2) 2 ug)).2.2 (dn - 2) 2 dg) := by rw [i71_5]
              have h9 : wS a cB cI cL h1 h2 s1 s2 op ((rpl dn dg un dn ((tn, tk, tv, ts), nx, mol dn dg un (dn - 2) 2 ug)).2.1) wt sf lf dn (wol dn un S'.2.2 (dn - 2) 2 dg) un (utn 4 0 un S'.2.2 0) qn qt qg S'.1.1 S'.1.2.1 S'.1.2.2.1 S'.1.2.2.2 ef eg ex eF pf pg px pF = wS a cB cI cL h1 h2 s1 s2 op ((rpl dn dg un dn ((tn, tk, tv, ts), nx, mol dn dg un (dn - 2) 2 ug)).2.1) wt sf lf dn (wol dn un (rpl dn dg un dn ((tn, tk, tv, ts), nx, mol dn dg un (dn - 2) 2 ug)).2.2 (dn - 2) 2 dg) un (utn 4 0 un S'.2.2 0) qn qt qg S'.1.1 S'.1.2.1 S'.1.2.2.1 S'.1.2.2.2 ef eg ex eF pf pg px pF := by rw [← e2]
              have hP := x_wP h9 hP
              have hD := x_wD h9 hD
              have e3 : (utn 4 0 un S'.2.2 0) = (utn 4 0 un (rpl dn dg un dn ((tn, tk, tv, ts), nx, mol dn dg un (dn - 2) 2 ug)).2.2 0) := by rw [i71_5]
              have h9 : wS a cB cI cL h1 h2 s1 s2 op ((rpl dn dg un dn ((tn, tk, tv, ts), nx, mol dn dg un (dn - 2) 2 ug)).2.1) wt sf lf dn (wol dn un (rpl dn dg un dn ((tn, tk, tv, ts), nx, mol dn dg un (dn - 2) 2 ug)).2.2 (dn - 2) 2 dg) un (utn 4 0 un S'.2.2 0) qn qt qg S'.1.1 S'.1.2.1 S'.1.2.2.1 S'.1.2.2.2 ef eg ex eF pf pg px pF = wS a cB cI cL h1 h2 s1 s2 op ((rpl dn dg un dn ((tn, tk, tv, ts), nx, mol dn dg un (dn - 2) 2 ug)).2.1) wt sf lf dn (wol dn un (rpl dn dg un dn ((tn, tk, tv, ts), nx, mol dn dg un (dn - 2) 2 ug)).2.2 (dn - 2) 2 dg) un (utn 4 0 un (rpl dn dg un dn ((tn, tk, tv, ts), nx, mol dn dg un (dn - 2) 2 ug)).2.2 0) qn qt qg S'.1.1 S'.1.2.1 S'.1.2.2.1 S'.1.2.2.2 ef eg ex eF pf pg px pF := by rw [← e3]
              have hP := x_wP h9 hP
              have hD := x_wD h9 hD
              have e4 : S'.1.1 = (((rpl dn dg un dn ((tn, tk, tv, ts), nx, mol dn dg un (dn - 2) 2 ug)).1).1) := by rw [i71_5]
              have h9 : wS a cB cI cL h1 h2 s1 s2 op ((rpl dn dg un dn ((tn, tk, tv, ts), nx, mol dn dg un (dn - 2) 2 ug)).2.1) wt sf lf dn (wol dn un (rpl dn dg un dn ((tn, tk, tv, ts), nx, mol dn dg un (dn - 2) 2 ug)).2.2 (dn - 2) 2 dg) un (utn 4 0 un (rpl dn dg un dn ((tn, tk, tv, ts), nx, mol dn dg un (dn - 2) 2 ug)).2.2 0) qn qt qg S'.1.1 S'.1.2.1 S'.1.2.2.1 S'.1.2.2.2 ef eg ex eF pf pg px pF = wS a cB cI cL h1 h2 s1 s2 op ((rpl dn dg un dn ((tn, tk, tv, ts), nx, mol dn dg un (dn - 2) 2 ug)).2.1) wt sf lf dn (wol dn un (rpl dn dg un dn ((tn, tk, tv, ts), nx, mol dn dg un (dn - 2) 2 ug)).2.2 (dn - 2) 2 dg) un (utn 4 0 un (rpl dn dg un dn ((tn, tk, tv, ts), nx, mol dn dg un (dn - 2) 2 ug)).2.2 0) qn qt qg (((rpl dn dg un dn ((tn, tk, tv, ts), nx, mol dn dg un (dn - 2) 2 ug)).1).1) S'.1.2.1 S'.1.2.2.1 S'.1.2.2.2 ef eg ex eF pf pg px pF := by rw [← e4]
              have hP := x_wP h9 hP
              have hD := x_wD h9 hD
              have e5 : S'.1.2.1 = (((rpl dn dg un dn ((tn, tk, tv, ts), nx, mol dn dg un (dn - 2) 2 ug)).1).2.1) := by rw [i71_5]
              have h9 : wS a cB cI cL h1 h2 s1 s2 op ((rpl dn dg un dn ((tn, tk, tv, ts), nx, mol dn dg un (dn - 2) 2 ug)).2.1) wt sf lf dn (wol dn un (rpl dn dg un dn ((tn, tk, tv, ts), nx, mol dn dg un (dn - 2) 2 ug)).2.2 (dn - 2) 2 dg) un (utn 4 0 un (rpl dn dg un dn ((tn, tk, tv, ts), nx, mol dn dg un (dn - 2) 2 ug)).2.2 0) qn qt qg (((rpl dn dg un dn ((tn, tk, tv, ts), nx, mol dn dg un (dn - 2) 2 ug)).1).1) S'.1.2.1 S'.1.2.2.1 S'.1.2.2.2 ef eg ex eF pf pg px pF = wS a cB cI cL h1 h2 s1 s2 op ((rpl dn dg un dn ((tn, tk, tv, ts), nx, mol dn dg un (dn - 2) 2 ug)).2.1) wt sf lf dn (wol dn un (rpl dn dg un dn ((tn, tk, tv, ts), nx, mol dn dg un (dn - 2) 2 ug)).2.2 (dn - 2) 2 dg) un (utn 4 0 un (rpl dn dg un dn ((tn, tk, tv, ts), nx, mol dn dg un (dn - 2) 2 ug)).2.2 0) qn qt qg (((rpl dn dg un dn ((tn, tk, tv, ts), nx, mol dn dg un (dn - 2) 2 ug)).1).1) (((rpl dn dg un dn ((tn, tk, tv, ts), nx, mol dn dg un (dn - 2) 2 ug)).1).2.1) S'.1.2.2.1 S'.1.2.2.2 ef eg ex eF pf pg px pF := by rw [← e5]
              have hP := x_wP h9 hP
              have hD := x_wD h9 hD
              have e6 : S'.1.2.2.1 = (((rpl dn dg un dn ((tn, tk, tv, ts), nx, mol dn dg un (dn - 2) 2 ug)).1).2.2.1) := by rw [i71_5]
              have h9 : wS a cB cI cL h1 h2 s1 s2 op ((rpl dn dg un dn ((tn, tk, tv, ts), nx, mol dn dg un (dn - 2) 2 ug)).2.1) wt sf lf dn (wol dn un (rpl dn dg un dn ((tn, tk, tv, ts), nx, mol dn dg un (dn - 2) 2 ug)).2.2 (dn - 2) 2 dg) un (utn 4 0 un (rpl dn dg un dn ((tn, tk, tv, ts), nx, mol dn dg un (dn - 2) 2 ug)).2.2 0) qn qt qg (((rpl dn dg un dn ((tn, tk, tv, ts), nx, mol dn dg un (dn - 2) 2 ug)).1).1) (((rpl dn dg un dn ((tn, tk, tv, ts), nx, mol dn dg un (dn - 2) 2 ug)).1).2.1) S'.1.2.2.1 S'.1.2.2.2 ef eg ex eF pf pg px pF = wS a cB cI cL h1 h2 s1 s2 op ((rpl dn dg un dn ((tn, tk, tv, ts), nx, mol dn dg un (dn - 2) 2 ug)).2.1) wt sf lf dn (wol dn un (rpl dn dg un dn ((tn, tk, tv, ts), nx, mol dn dg un (dn - 2) 2 ug)).2.2 (dn - 2) 2 dg) un (utn 4 0 un (rpl dn dg un dn ((tn, tk, tv, ts), nx, mol dn dg un (dn - 2) 2 ug)).2.2 0) qn qt qg (((rpl dn dg un dn ((tn, tk, tv, ts), nx, mol dn dg un (dn - 2) 2 ug)).1).1) (((rpl dn dg un dn ((tn, tk, tv, ts), nx, mol dn dg un (dn - 2) 2 ug)).1).2.1) (((rpl dn dg un dn ((tn, tk, tv, ts), nx, mol dn dg un (dn - 2) 2 ug)).1).2.2.1) S'.1.2.2.2 ef eg ex eF pf pg px pF := by rw [← e6]
              have hP := x_wP h9 hP
              have hD := x_wD h9 hD
              have e7 : S'.1.2.2.2 = (((rpl dn dg un dn ((tn, tk, tv, ts), nx, mol dn dg un (dn - 2) 2 ug)).1).2.2.2) := by rw [i71_5]
              have h9 : wS a cB cI cL h1 h2 s1 s2 op ((rpl dn dg un dn ((tn, tk, tv, ts), nx, mol dn dg un (dn - 2) 2 ug)).2.1) wt sf lf dn (wol dn un (rpl dn dg un dn ((tn, tk, tv, ts), nx, mol dn dg un (dn - 2) 2 ug)).2.2 (dn - 2) 2 dg) un (utn 4 0 un (rpl dn dg un dn ((tn, tk, tv, ts), nx, mol dn dg un (dn - 2) 2 ug)).2.2 0) qn qt qg (((rpl dn dg un dn ((tn, tk, tv, ts), nx, mol dn dg un (dn - 2) 2 ug)).1).1) (((rpl dn dg un dn ((tn, tk, tv, ts), nx, mol dn dg un (dn - 2) 2 ug)).1).2.1) (((rpl dn dg un dn ((tn, tk, tv, ts), nx, mol dn dg un (dn - 2) 2 ug)).1).2.2.1) S'.1.2.2.2 ef eg ex eF pf pg px pF = wS a cB cI cL h1 h2 s1 s2 op ((rpl dn dg un dn ((tn, tk, tv, ts), nx, mol dn dg un (dn - 2) 2 ug)).2.1) wt sf lf dn (wol dn un (rpl dn dg un dn ((tn, tk, tv, ts), nx, mol dn dg un (dn - 2) 2 ug)).2.2 (dn - 2) 2 dg) un (utn 4 0 un (rpl dn dg un dn ((tn, tk, tv, ts), nx, mol dn dg un (dn - 2) 2 ug)).2.2 0) qn qt qg (((rpl dn dg un dn ((tn, tk, tv, ts), nx, mol dn dg un (dn - 2) 2 ug)).1).1) (((rpl dn dg un dn ((tn, tk, tv, ts), nx, mol dn dg un (dn - 2) 2 ug)).1).2.1) (((rpl dn dg un dn ((tn, tk, tv, ts), nx, mol dn dg un (dn - 2) 2 ug)).1).2.2.1) (((rpl dn dg un dn ((tn, tk, tv, ts), nx, mol dn dg un (dn - 2) 2 ug)).1).2.2.2) ef eg ex eF pf pg px pF := by rw [← e7]
              have hP := x_wP h9 hP
              have hD := x_wD h9 hD
              exact hret dX5_replayLog_108 hP hD hS
            · refine lv_iload_n hx hb dX5_replayLog_82 rfl (lv_at hl 1 rfl) ?_
              refine lv_bipush (v := (-2)) hx hb dX5_replayLog_83 (by decide) ?_
              refine lv_icmp_eq (tgt := 104) hx hb dX5_replayLog_85 (by decide) (fun c85 => ?_) (fun c85 => ?_)
              · have hob := oI_none c85 (fun b h => by have := nlb_lt h; omega)
                have zz : rpl dn dg un (dn - t) S' = S' := by
                  rw [show dn - t = (dn - (t + 1)) + 1 by omega, rpl, hob]
                rw [zz] at i71_5
                refine lv_aload_n hx hb dX5_replayLog_104 rfl (lv_at hl 0 rfl) ?_
                refine x_callv (va_runV (As := []) (rest := []) ⟨hx, hb, hml, hown, hts⟩ (c_SL_wipeOldLog (by omega) (by omega) hdg i71_4) (cwV 0 hts (tbV tw_510 tw_512 tw_53 tw_84 tw_513) rfl rfl rfl (by decide +kernel) ⟨Nat.le_of_ble_eq_true rfl, Nat.le_of_ble_eq_true rfl⟩) ⟨x_blind, va_recv hK hP (ci := 5) (q0 := 0) rfl rfl, x_pre hK hP hD hN⟩ rfl rfl hl.1 rfl (lv_room (Nat.le_of_ble_eq_true rfl)) dX5_replayLog_105 ⟨Nat.zero_le _, Nat.zero_le _⟩) hS (fun H locs hP hD hS => ?_)
                have hP : va_P (dC, dI) vwCl (wS a cB cI cL h1 h2 s1 s2 op S'.2.1 wt sf lf dn (wol dn un S'.2.2 (dn - 2) 2 dg) un (utn 4 0 un S'.2.2 0) qn qt qg S'.1.1 S'.1.2.1 S'.1.2.2.1 S'.1.2.2.2 ef eg ex eF pf pg px pF) H := hP
                have hD : va_D A (wS a cB cI cL h1 h2 s1 s2 op S'.2.1 wt sf lf dn (wol dn un S'.2.2 (dn - 2) 2 dg) un (utn 4 0 un S'.2.2 0) qn qt qg S'.1.1 S'.1.2.1 S'.1.2.2.1 S'.1.2.2.2 ef eg ex eF pf pg px pF) := hD
                have e8 : S'.2.1 = ((rpl dn dg un dn ((tn, tk, tv, ts), nx, mol dn dg un (dn - 2) 2 ug)).2.1) := by rw [i71_5]
                have h9 : wS a cB cI cL h1 h2 s1 s2 op S'.2.1 wt sf lf dn (wol dn un S'.2.2 (dn - 2) 2 dg) un (utn 4 0 un S'.2.2 0) qn qt qg S'.1.1 S'.1.2.1 S'.1.2.2.1 S'.1.2.2.2 ef eg ex eF pf pg px pF = wS a cB cI cL h1 h2 s1 s2 op ((rpl dn dg un dn ((tn, tk, tv, ts), nx, mol dn dg un (dn - 2) 2 ug)).2.1) wt sf lf dn (wol dn un S'.2.2 (dn - 2) 2 dg) un (utn 4 0 un S'.2.2 0) qn qt qg S'.1.1 S'.1.2.1 S'.1.2.2.1 S'.1.2.2.2 ef eg ex eF pf pg px pF := by rw [← e8]
                have hP := x_wP h9 hP
                have hD := x_wD h9 hD
                have e9 : (wol dn un S'.2.2 (dn - 2) 2 dg) = (wol dn un (rpl dn dg un dn ((tn, tk, tv, ts), nx, mol dn dg un (dn - 2) 2 ug)).2.2 (dn - 2) 2 dg) := by rw [i71_5]
                have h9 : wS a cB cI cL h1 h2 s1 s2 op ((rpl dn dg un dn ((tn, tk, tv, ts), nx, mol dn dg un (dn - 2) 2 ug)).2.1) wt sf lf dn (wol dn un S'.2.2 (dn - 2) 2 dg) un (utn 4 0 un S'.2.2 0) qn qt qg S'.1.1 S'.1.2.1 S'.1.2.2.1 S'.1.2.2.2 ef eg ex eF pf pg px pF = wS a cB cI cL h1 h2 s1 s2 op ((rpl dn dg un dn ((tn, tk, tv, ts), nx, mol dn dg un (dn - 2) 2 ug)).2.1) wt sf lf dn (wol dn un (rpl dn dg un dn ((tn, tk, tv, ts), nx, mol dn dg un (dn - 2) 2 ug)).2.2 (dn - 2) 2 dg) un (utn 4 0 un S'.2.2 0) qn qt qg S'.1.1 S'.1.2.1 S'.1.2.2.1 S'.1.2.2.2 ef eg ex eF pf pg px pF := by rw [← e9]
                have hP := x_wP h9 hP
                have hD := x_wD h9 hD
                have e10 : (utn 4 0 un S'.2.2 0) = (utn 4 0 un (rpl dn dg un dn ((tn, tk, tv, ts), nx, mol dn dg un (dn - 2) 2 ug)).2.2 0) := by rw [i71_5]
                have h9 : wS a cB cI cL h1 h2 s1 s2 op ((rpl dn dg un dn ((tn, tk, tv, ts), nx, mol dn dg un (dn - 2) 2 ug)).2.1) wt sf lf dn (wol dn un (rpl dn dg un dn ((tn, tk, tv, ts), nx, mol dn dg un (dn - 2) 2 ug)).2.2 (dn - 2) 2 dg) un (utn 4 0 un S'.2.2 0) qn qt qg S'.1.1 S'.1.2.1 S'.1.2.2.1 S'.1.2.2.2 ef eg ex eF pf pg px pF = wS a cB cI cL h1 h2 s1 s2 op ((rpl dn dg un dn ((tn, tk, tv, ts), nx, mol dn dg un (dn - 2) 2 ug)).2.1) wt sf lf dn (wol dn un (rpl dn dg un dn ((tn, tk, tv, ts), nx, mol dn dg un (dn - 2) 2 ug)).2.2 (dn - 2) 2 dg) un (utn 4 0 un (rpl dn dg un dn ((tn, tk, tv, ts), nx, mol dn dg un (dn - 2) 2 ug)).2.2 0) qn qt qg S'.1.1 S'.1.2.1 S'.1.2.2.1 S'.1.2.2.2 ef eg ex eF pf pg px pF := by rw [← e10]
                have hP := x_wP h9 hP
                have hD := x_wD h9 hD
                have e11 : S'.1.1 = (((rpl dn dg un dn ((tn, tk, tv, ts), nx, mol dn dg un (dn - 2) 2 ug)).1).1) := by rw [i71_5]
                have h9 : wS a cB cI cL h1 h2 s1 s2 op ((rpl dn dg un dn ((tn, tk, tv, ts), nx, mol dn dg un (dn - 2) 2 ug)).2.1) wt sf lf dn (wol dn un (rpl dn dg un dn ((tn, tk, tv, ts), nx, mol dn dg un (dn - 2) 2 ug)).2.2 (dn - 2) 2 dg) un (utn 4 0 un (rpl dn dg un dn ((tn, tk, tv, ts), nx, mol dn dg un (dn - 2) 2 ug)).2.2 0) qn qt qg S'.1.1 S'.1.2.1 S'.1.2.2.1 S'.1.2.2.2 ef eg ex eF pf pg px pF = wS a cB cI cL h1 h2 s1 s2 op ((rpl dn dg un dn ((tn, tk, tv, ts), nx, mol dn dg un (dn - 2) 2 ug)).2.1) wt sf lf dn (wol dn un (rpl dn dg un dn ((tn, tk, tv, ts), nx, mol dn dg un (dn - 2) 2 ug)).2.2 (dn - 2) 2 dg) un (utn 4 0 un (rpl dn dg un dn ((tn, tk, tv, ts), nx, mol dn dg un (dn - 2) 2 ug)).2.2 0) qn qt qg (((rpl dn dg un dn ((tn, tk, tv, ts), nx, mol dn dg un (dn - 2) 2 ug)).1).1) S'.1.2.1 S'.1.2.2.1 S'.1.2.2.2 ef eg ex eF pf pg px pF := by rw [← e11]
                have hP := x_wP h9 hP
                have hD := x_wD h9 hD
                have e12 : S'.1.2.1 = (((rpl dn dg un dn ((tn, tk, tv, ts), nx, mol dn dg un (dn - 2) 2 ug)).1).2.1) := by rw [i71_5]
                have h9 : wS a cB cI cL h1 h2 s1 s2 op ((rpl dn dg un dn ((tn, tk, tv, ts), nx, mol dn dg un (dn - 2) 2 ug)).2.1) wt sf lf dn (wol dn un (rpl dn dg un dn ((tn, tk, tv, ts), nx, mol dn dg un (dn - 2) 2 ug)).2.2 (dn - 2) 2 dg) un (utn 4 0 un (rpl dn dg un dn ((tn, tk, tv, ts), nx, mol dn dg un (dn - 2) 2 ug)).2.2 0) qn qt qg (((rpl dn dg un dn ((tn, tk, tv, ts), nx, mol dn dg un (dn - 2) 2 ug)).1).1) S'.1.2.1 S'.1.2.2.1 S'.1.2.2.2 ef eg ex eF pf pg px pF = wS a cB cI cL h1 h2 s1 s2 op ((rpl dn dg un dn ((tn, tk, tv, ts), nx, mol dn dg un (dn - 2) 2 ug)).2.1) wt sf lf dn (wol dn un (rpl dn dg un dn ((tn, tk, tv, ts), nx, mol dn dg un (dn - 2) 2 ug)).2.2 (dn - 2) 2 dg) un (utn 4 0 un (rpl dn dg un dn ((tn, tk, tv, ts), nx, mol dn dg un (dn - 2) 2 ug)).2.2 0) qn qt qg (((rpl dn dg un dn ((tn, tk, tv, ts), nx, mol dn dg un (dn - 2) 2 ug)).1).1) (((rpl dn dg un dn ((tn, tk, tv, ts), nx, mol dn dg un (dn - 2) 2 ug)).1).2.1) S'.1.2.2.1 S'.1.2.2.2 ef eg ex eF pf pg px pF := by rw [← e12]
                have hP := x_wP h9 hP
                have hD := x_wD h9 hD
                have e13 : S'.1.2.2.1 = (((rpl dn dg un dn ((tn, tk, tv, ts), nx, mol dn dg un (dn - 2) 2 ug)).1).2.2.1) := by rw [i71_5]
                have h9 : wS a cB cI cL h1 h2 s1 s2 op ((rpl dn dg un dn ((tn, tk, tv, ts), nx, mol dn dg un (dn - 2) 2 ug)).2.1) wt sf lf dn (wol dn un (rpl dn dg un dn ((tn, tk, tv, ts), nx, mol dn dg un (dn - 2) 2 ug)).2.2 (dn - 2) 2 dg) un (utn 4 0 un (rpl dn dg un dn ((tn, tk, tv, ts), nx, mol dn dg un (dn - 2) 2 ug)).2.2 0) qn qt qg (((rpl dn dg un dn ((tn, tk, tv, ts), nx, mol dn dg un (dn - 2) 2 ug)).1).1) (((rpl dn dg un dn ((tn, tk, tv, ts), nx, mol dn dg un (dn - 2) 2 ug)).1).2.1) S'.1.2.2.1 S'.1.2.2.2 ef eg ex eF pf pg px pF = wS a cB cI cL h1 h2 s1 s2 op ((rpl dn dg un dn ((tn, tk, tv, ts), nx, mol dn dg un (dn - 2) 2 ug)).2.1) wt sf lf dn (wol dn un (rpl dn dg un dn ((tn, tk, tv, ts), nx, mol dn dg un (dn - 2) 2 ug)).2.2 (dn - 2) 2 dg) un (utn 4 0 un (rpl dn dg un dn ((tn, tk, tv, ts), nx, mol dn dg un (dn - 2) 2 ug)).2.2 0) qn qt qg (((rpl dn dg un dn ((tn, tk, tv, ts), nx, mol dn dg un (dn - 2) 2 ug)).1).1) (((rpl dn dg un dn ((tn, tk, tv, ts), nx, mol dn dg un (dn - 2) 2 ug)).1).2.1) (((rpl dn dg un dn ((tn, tk, tv, ts), nx, mol dn dg un (dn - 2) 2 ug)).1).2.2.1) S'.1.2.2.2 ef eg ex eF pf pg px pF := by rw [← e13]
                have hP := x_wP h9 hP
                have hD := x_wD h9 hD
                have e14 : S'.1.2.2.2 = (((rpl dn dg un dn ((tn, tk, tv, ts), nx, mol dn dg un (dn - 2) 2 ug)).1).2.2.2) := by rw [i71_5]
                have h9 : wS a cB cI cL h1 h2 s1 s2 op ((rpl dn dg un dn ((tn, tk, tv, ts), nx, mol dn dg un (dn - 2) 2 ug)).2.1) wt sf lf dn (wol dn un (rpl dn dg un dn ((tn, tk, tv, ts), nx, mol dn dg un (dn - 2) 2 ug)).2.2 (dn - 2) 2 dg) un (utn 4 0 un (rpl dn dg un dn ((tn, tk, tv, ts), nx, mol dn dg un (dn - 2) 2 ug)).2.2 0) qn qt qg (((rpl dn dg un dn ((tn, tk, tv, ts), nx, mol dn dg un (dn - 2) 2 ug)).1).1) (((rpl dn dg un dn ((tn, tk, tv, ts), nx, mol dn dg un (dn - 2) 2 ug)).1).2.1) (((rpl dn dg un dn ((tn, tk, tv, ts), nx, mol dn dg un (dn - 2) 2 ug)).1).2.2.1) S'.1.2.2.2 ef eg ex eF pf pg px pF = wS a cB cI cL h1 h2 s1 s2 op ((rpl dn dg un dn ((tn, tk, tv, ts), nx, mol dn dg un (dn - 2) 2 ug)).2.1) wt sf lf dn (wol dn un (rpl dn dg un dn ((tn, tk, tv, ts), nx, mol dn dg un (dn - 2) 2 ug)).2.2 (dn - 2) 2 dg) un (utn 4 0 un (rpl dn dg un dn ((tn, tk, tv, ts), nx, mol dn dg un (dn - 2) 2 ug)).2.2 0) qn qt qg (((rpl dn dg un dn ((tn, tk, tv, ts), nx, mol dn dg un (dn - 2) 2 ug)).1).1) (((rpl dn dg un dn ((tn, tk, tv, ts), nx, mol dn dg un (dn - 2) 2 ug)).1).2.1) (((rpl dn dg un dn ((tn, tk, tv, ts), nx, mol dn dg un (dn - 2) 2 ug)).1).2.2.1) (((rpl dn dg un dn ((tn, tk, tv, ts), nx, mol dn dg un (dn - 2) 2 ug)).1).2.2.2) ef eg ex eF pf pg px pF := by rw [← e14]
                have hP := x_wP h9 hP
                have hD := x_wD h9 hD
                exact hret dX5_replayLog_108 hP hD hS
              · obtain ⟨b, hob⟩ := oI_some c85
                rw [hob] at hl
                have hbb := nlb_lt hob
                have w1 := bv_lt (n := dn) (b := b) (i := 1) hdg
                have hl : lv_has ls 3 [(0, .ref (a 0)), (1, .int (nI b)), (2, .int (nI t))] := hl
                refine lv_aload_n hx hb dX5_replayLog_88 rfl (lv_at hl 0 rfl) ?_
                refine lv_iload_n hx hb dX5_replayLog_89 rfl (lv_at hl 1 rfl) ?_
                refine x_callv (va_runV (As := [.int (nI b)]) (rest := []) ⟨hx, hb, hml, hown, hts⟩ (c_SL_readLogBlock (by omega) (by omega) (by omega) hdg i71_4 i71_3 (by omega) b (by omega)) (cwV 1 hts (tbV tw_506 tw_508 tw_52 tw_84 tw_509) rfl rfl rfl (by decide +kernel) ⟨Nat.le_of_ble_eq_true rfl, Nat.le_of_ble_eq_true rfl⟩) ⟨x_blind, va_recv hK hP (ci := 5) (q0 := 0) rfl rfl, x_pre hK hP hD hN⟩ rfl rfl hl.1 rfl (lv_room (Nat.le_of_ble_eq_true rfl)) dX5_replayLog_90 ⟨Nat.zero_le _, Nat.zero_le _⟩) hS (fun H locs hP hD hS => ?_)
                have hP : va_P (dC, dI) vwCl (wS a cB cI cL h1 h2 s1 s2 op (S'.2.1 + bv dn dg b 1) wt sf lf dn dg un (umk un b 1 1 S'.2.2 0) qn qt qg ((rlI dn dg b S'.2.1 (bv dn dg b 1) 0 S'.1).1) ((rlI dn dg b S'.2.1 (bv dn dg b 1) 0 S'.1).2.1) ((rlI dn dg b S'.2.1 (bv dn dg b 1) 0 S'.1).2.2.1) ((rlI dn dg b S'.2.1 (bv dn dg b 1) 0 S'.1).2.2.2) ef eg ex eF pf pg px pF) H := hP
                have hD : va_D A (wS a cB cI cL h1 h2 s1 s2 op (S'.2.1 + bv dn dg b 1) wt sf lf dn dg un (umk un b 1 1 S'.2.2 0) qn qt qg ((rlI dn dg b S'.2.1 (bv dn dg b 1) 0 S'.1).1) ((rlI dn dg b S'.2.1 (bv dn dg b 1) 0 S'.1).2.1) ((rlI dn dg b S'.2.1 (bv dn dg b 1) 0 S'.1).2.2.1) ((rlI dn dg b S'.2.1 (bv dn dg b 1) 0 S'.1).2.2.2) ef eg ex eF pf pg px pF) := hD
                refine lv_aload_n hx hb dX5_replayLog_93 rfl (lv_at hl 0 rfl) ?_
                refine x_calli (va_runV (As := []) (rest := []) ⟨hx, hb, hml, hown, hts⟩ (c_SL_nextLogBlock (by omega) (by omega) hdg (umk_lt i71_4 (by decide)) (by omega)) (cwV 0 hts (tbV tw_502 tw_504 tw_51 tw_84 tw_505) rfl rfl rfl (by decide +kernel) ⟨Nat.le_of_ble_eq_true rfl, Nat.le_of_ble_eq_true rfl⟩) ⟨x_blind, va_recv hK hP (ci := 5) (q0 := 0) rfl rfl, x_pre hK hP hD hN⟩ rfl rfl hl.1 rfl (lv_room (Nat.le_of_ble_eq_true rfl)) dX5_replayLog_94 ⟨Nat.zero_le _, Nat.zero_le _⟩) hS (fun H locs hP hD hS => ?_)
                have hP : va_P (dC, dI) vwCl (wS a cB cI cL h1 h2 s1 s2 op (S'.2.1 + bv dn dg b 1) wt sf lf dn dg un (umk un b 1 1 S'.2.2 0) qn qt qg ((rlI dn dg b S'.2.1 (bv dn dg b 1) 0 S'.1).1) ((rlI dn dg b S'.2.1 (bv dn dg b 1) 0 S'.1).2.1) ((rlI dn dg b S'.2.1 (bv dn dg b 1) 0 S'.1).2.2.1) ((rlI dn dg b S'.2.1 (bv dn dg b 1) 0 S'.1).2.2.2) ef eg ex eF pf pg px pF) H := hP
                have hD : va_D A (wS a cB cI cL h1 h2 s1 s2 op (S'.2.1 + bv dn dg b 1) wt sf lf dn dg un (umk un b 1 1 S'.2.2 0) qn qt qg ((rlI dn dg b S'.2.1 (bv dn dg b 1) 0 S'.1).1) ((rlI dn dg b S'.2.1 (bv dn dg b 1) 0 S'.1).2.1) ((rlI dn dg b S'.2.1 (bv dn dg b 1) 0 S'.1).2.2.1) ((rlI dn dg b S'.2.1 (bv dn dg b 1) 0 S'.1).2.2.2) ef eg ex eF pf pg px pF) := hD
                refine lv_istore_n (lv' := [(1, .int (oI (nlb dn dg un (umk un b 1 1 S'.2.2 0) (S'.2.1 + bv dn dg b 1) (dn - 2) 2))), (0, .ref (a 0)), (2, .int (nI t))]) hx hb dX5_replayLog_97 rfl hl (by decide) rfl (fun ls hl => ?_)
                refine lv_iinc (v := nI (t + 1)) (lv' := [(2, .int (nI (t + 1))), (1, .int (oI (nlb dn dg un (umk un b 1 1 S'.2.2 0) (S'.2.1 + bv dn dg b 1) (dn - 2) 2))), (0, .ref (a 0))]) hx hb dX5_replayLog_98 hl (k := 2) rfl (x_inc _) (by decide) rfl (fun ls hl => ?_)
                refine lv_goto (tgt := 71) hx hb dX5_replayLog_101 (by decide) ?_
                have e15 : (oI (nlb dn dg un (umk un b 1 1 S'.2.2 0) (S'.2.1 + bv dn dg b 1) (dn - 2) 2)) = (oI (nlb dn dg un (rlS dn dg un b S').2.2 (rlS dn dg un b S').2.1 (dn - 2) 2)) := by rfl
                have e16 : (S'.2.1 + bv dn dg b 1) = ((rlS dn dg un b S').2.1) := by rfl
                have e17 : (umk un b 1 1 S'.2.2 0) = ((rlS dn dg un b S').2.2) := by rfl
                have e18 : ((rlI dn dg b S'.2.1 (bv dn dg b 1) 0 S'.1).1) = ((rlS dn dg un b S').1.1) := by rfl
                have e19 : ((rlI dn dg b S'.2.1 (bv dn dg b 1) 0 S'.1).2.1) = ((rlS dn dg un b S').1.2.1) := by rfl
                have e20 : ((rlI dn dg b S'.2.1 (bv dn dg b 1) 0 S'.1).2.2.1) = ((rlS dn dg un b S').1.2.2.1) := by rfl
                have e21 : ((rlI dn dg b S'.2.1 (bv dn dg b 1) 0 S'.1).2.2.2) = ((rlS dn dg un b S').1.2.2.2) := by rfl
                exact ih71 (t + 1) (rlS dn dg un b S') (by omega) (by omega) (by show S'.2.1 + bv dn dg b 1 + 255 * (dn - (t + 1)) < 2 ^ 30; omega) (by exact rlI_le i71_2) (by exact rlI_lt (by omega) i71_3 (by omega)) (by exact umk_lt i71_4 (by decide)) (by have h := i71_5; rw [show dn - t = (dn - (t + 1)) + 1 by omega, rpl, hob] at h; exact h) _ _ (x_wP (by rw [← e16, ← e17, e18, e19, e20, e21]) hP) (x_wD (by rw [← e16, ← e17, e18, e19, e20, e21]) hD) hS ls (x_lvc (l1 := [(0, .ref (a 0)), (1, .int (oI (nlb dn dg un (umk un b 1 1 S'.2.2 0) (S'.2.1 + bv dn dg b 1) (dn - 2) 2))), (2, .int (nI (t + 1)))]) (by rw [e15]) (lv_sub hl [2, 1, 0] rfl))
        have e22 : (oI (nlb dn dg un (mol dn dg un (dn - 2) 2 ug) nx (dn - 2) 2)) = (oI (nlb dn dg un ((tn, tk, tv, ts), nx, mol dn dg un (dn - 2) 2 ug).2.2 ((tn, tk, tv, ts), nx, mol dn dg un (dn - 2) 2 ug).2.1 (dn - 2) 2)) := by rfl
        have e23 : nx = (((tn, tk, tv, ts), nx, mol dn dg un (dn - 2) 2 ug).2.1) := by rfl
        have e24 : (mol dn dg un (dn - 2) 2 ug) = (((tn, tk, tv, ts), nx, mol dn dg un (dn - 2) 2 ug).2.2) := by rfl
        have e25 : tn = (((tn, tk, tv, ts), nx, mol dn dg un (dn - 2) 2 ug).1.1) := by rfl
        have e26 : tk = (((tn, tk, tv, ts), nx, mol dn dg un (dn - 2) 2 ug).1.2.1) := by rfl
        have e27 : tv = (((tn, tk, tv, ts), nx, mol dn dg un (dn - 2) 2 ug).1.2.2.1) := by rfl
        have e28 : ts = (((tn, tk, tv, ts), nx, mol dn dg un (dn - 2) 2 ug).1.2.2.2) := by rfl
        exact L71 (dn - 0 + 1) 0 ((tn, tk, tv, ts), nx, mol dn dg un (dn - 2) 2 ug) (by omega) (by omega) (by show nx + 255 * (dn - 0) < 2 ^ 30; omega) (by exact htn) (by exact hs) (by exact mol_lt hug) (by rfl) _ _ (x_wP (by rw [← e23, ← e24, ← e25, ← e26, ← e27, ← e28]) hP) (x_wD (by rw [← e23, ← e24, ← e25, ← e26, ← e27, ← e28]) hD) hS ls (x_lvc (l1 := [(0, .ref (a 0)), (1, .int (oI (nlb dn dg un (mol dn dg un (dn - 2) 2 ug) nx (dn - 2) 2))), (2, .int (nI 0))]) (by rw [← e22]) (lv_sub hl [2, 1, 0] rfl))
      · refine lv_aload_n hx hb dX5_replayLog_13 rfl (lv_at hl 0 rfl) ?_
        refine va_get (D := (dC, dI)) (ci := 5) (v := .ref (a 3)) (C := RX5) (T := TX5) (N := 11) hx hb hts in_X5 hown hK hP 0 rfl rfl 1 (by decide) f21 (fun _ h9 => h9) rfl dX5_replayLog_14 ?_
        refine lv_iload_n hx hb dX5_replayLog_17 rfl (lv_at hl 1 rfl) ?_
        refine x_calli (va_runVN (As := [.int (nI b)]) (rest := []) ⟨hx, hb, hml, hown, hts⟩ (c_Us_of (show okU (fun ug' => wS a cB cI cL h1 h2 s1 s2 op nx wt sf lf dn dg un ug' qn qt qg tn tk tv ts ef eg ex eF pf pg px pF) 3 4 (a 3) (a 4) cI un from ⟨fun _ => rfl, fun _ => rfl, fun _ _ => rfl⟩) (tyS_I cB cI cL) (by omega) u' i2_1 b (by omega)) ⟨(va_cnB 1 hts (tbG tw_501) rfl rfl rfl n164 ini_X4 (by decide +kernel) ⟨Nat.le_of_ble_eq_true rfl, Nat.le_of_ble_eq_true rfl⟩), im_yX4_of, se_yX4_of⟩ ⟨x_blind, va_recv hK hP (ci := 4) (q0 := 3) rfl rfl, x_pre hK hP hD hN⟩ rfl rfl hl.1 rfl (lv_room (Nat.le_of_ble_eq_true rfl)) dX5_replayLog_18 ⟨Nat.zero_le _, Nat.zero_le _⟩) hS (fun H locs hP hD hS => ?_)
        have hP : va_P (dC, dI) vwCl (wS a cB cI cL h1 h2 s1 s2 op nx wt sf lf dn dg un u' qn qt qg tn tk tv ts ef eg ex eF pf pg px pF) H := hP
        have hD : va_D A (wS a cB cI cL h1 h2 s1 s2 op nx wt sf lf dn dg un u' qn qt qg tn tk tv ts ef eg ex eF pf pg px pF) := hD
        have hv18 : uof un u' b < 8 := uof_lt i2_1
        refine x_if_ne (tgt := 58) hx hb dX5_replayLog_21 (by decide) (by omega) (fun c21 => ?_) (fun c21 => ?_)
        · refine lv_iinc (v := nI (b + 1)) (lv' := [(1, .int (nI (b + 1))), (0, .ref (a 0))]) hx hb dX5_replayLog_58 hl (k := 1) rfl (x_inc _) (by decide) rfl (fun ls hl => ?_)
          refine lv_goto (tgt := 2) hx hb dX5_replayLog_61 (by decide) ?_
          exact ih2 (b + 1) u' (by omega) (by omega) (by first | exact i2_1 | exact umk_lt i2_1 (by decide)) (by have h := i2_2; rw [show dn - b = (dn - (b + 1)) + 1 by omega, mol] at h; first | (have hh : uof un u' b = 0 ∧ whole dn dg b = true ∧ bv dn dg b 0 = 1 := ⟨c21, c32, c45⟩; rw [if_pos hh] at h; exact h) | (have hh : ¬ (uof un u' b = 0 ∧ whole dn dg b = true ∧ bv dn dg b 0 = 1) := (by first | exact fun q => c21 q.1 | exact fun q => absurd (c32.symm.trans q.2.1) (by decide) | exact fun q => c45 q.2.2); rw [if_neg hh] at h; exact h)) _ _ hP hD hS ls (lv_sub hl [1, 0] rfl)
        · refine lv_aload_n hx hb dX5_replayLog_24 rfl (lv_at hl 0 rfl) ?_
          refine va_get (D := (dC, dI)) (ci := 5) (v := .ref (a 1)) (C := RX5) (T := TX5) (N := 11) hx hb hts in_X5 hown hK hP 0 rfl rfl 0 (by decide) f14 (fun _ h9 => h9) rfl dX5_replayLog_25 ?_
          refine lv_iload_n hx hb dX5_replayLog_28 rfl (lv_at hl 1 rfl) ?_
          refine x_calli (va_runVN (As := [.int (nI b)]) (rest := []) ⟨hx, hb, hml, hown, hts⟩ (c_Bl_isWhole (show okB (fun dg' => wS a cB cI cL h1 h2 s1 s2 op nx wt sf lf dn dg' un u' qn qt qg tn tk tv ts ef eg ex eF pf pg px pF) 1 2 (a 1) (a 2) cB dn from ⟨fun _ => rfl, fun _ => rfl, fun _ _ => rfl⟩) (tyS_B cB cI cL) (by omega) dg hdg b (by omega)) ⟨(va_cnB 1 hts (tbG tw_449) rfl rfl rfl n177 ini_X0 (by decide +kernel) ⟨Nat.le_of_ble_eq_true rfl, Nat.le_of_ble_eq_true rfl⟩), im_yX0_isWhole, se_yX0_isWhole⟩ ⟨x_blind, va_recv hK hP (ci := 0) (q0 := 1) rfl rfl, x_pre hK hP hD hN⟩ rfl rfl hl.1 rfl (lv_room (Nat.le_of_ble_eq_true rfl)) dX5_replayLog_29 ⟨Nat.zero_le _, Nat.zero_le _⟩) hS (fun H locs hP hD hS => ?_)
          have hP : va_P (dC, dI) vwCl (wS a cB cI cL h1 h2 s1 s2 op nx wt sf lf dn dg un u' qn qt qg tn tk tv ts ef eg ex eF pf pg px pF) H := hP
          have hD : va_D A (wS a cB cI cL h1 h2 s1 s2 op nx wt sf lf dn dg un u' qn qt qg tn tk tv ts ef eg ex eF pf pg px pF) := hD
          refine x_if_eq_b (tgt := 58) hx hb dX5_replayLog_32 (by decide) (fun c32 => ?_) (fun c32 => ?_)
          · refine lv_iinc (v := nI (b + 1)) (lv' := [(1, .int (nI (b + 1))), (0, .ref (a 0))]) hx hb dX5_replayLog_58 hl (k := 1) rfl (x_inc _) (by decide) rfl (fun ls hl => ?_)
            refine lv_goto (tgt := 2) hx hb dX5_replayLog_61 (by decide) ?_
            exact ih2 (b + 1) u' (by omega) (by omega) (by first | exact i2_1 | exact umk_lt i2_1 (by decide)) (by have h := i2_2; rw [show dn - b = (dn - (b + 1)) + 1 by omega, mol] at h; first | (have hh : uof un u' b = 0 ∧ whole dn dg b = true ∧ bv dn dg b 0 = 1 := ⟨c21, c32, c45⟩; rw [if_pos hh] at h; exact h) | (have hh : ¬ (uof un u' b = 0 ∧ whole dn dg b = true ∧ bv dn dg b 0 = 1) := (by first | exact fun q => c21 q.1 | exact fun q => absurd (c32.symm.trans q.2.1) (by decide) | exact fun q => c45 q.2.2); rw [if_neg hh] at h; exact h)) _ _ hP hD hS ls (lv_sub hl [1, 0] rfl)
          · refine lv_aload_n hx hb dX5_replayLog_35 rfl (lv_at hl 0 rfl) ?_
            refine va_get (D := (dC, dI)) (ci := 5) (v := .ref (a 1)) (C := RX5) (T := TX5) (N := 11) hx hb hts in_X5 hown hK hP 0 rfl rfl 0 (by decide) f14 (fun _ h9 => h9) rfl dX5_replayLog_36 ?_
            refine lv_iload_n hx hb dX5_replayLog_39 rfl (lv_at hl 1 rfl) ?_
            refine lv_iconst (v := nI 0) hx hb dX5_replayLog_40 (by decide) ?_
            refine x_calli (va_runVN (As := [.int (nI b), .int (nI 0)]) (rest := []) ⟨hx, hb, hml, hown, hts⟩ (c_Bl_value (show okB (fun dg' => wS a cB cI cL h1 h2 s1 s2 op nx wt sf lf dn dg' un u' qn qt qg tn tk tv ts ef eg ex eF pf pg px pF) 1 2 (a 1) (a 2) cB dn from ⟨fun _ => rfl, fun _ => rfl, fun _ _ => rfl⟩) (tyS_B cB cI cL) (by omega) dg hdg b 0 (by omega) (by omega)) ⟨(va_cnB 2 hts (tbG tw_346) rfl rfl rfl n167 ini_X0 (by decide +kernel) ⟨Nat.le_of_ble_eq_true rfl, Nat.le_of_ble_eq_true rfl⟩), im_yX0_value, se_yX0_value⟩ ⟨x_blind, va_recv hK hP (ci := 0) (q0 := 1) rfl rfl, x_pre hK hP hD hN⟩ rfl rfl hl.1 rfl (lv_room (Nat.le_of_ble_eq_true rfl)) dX5_replayLog_41 ⟨Nat.zero_le _, Nat.zero_le _⟩) hS (fun H locs hP hD hS => ?_)
            have hP : va_P (dC, dI) vwCl (wS a cB cI cL h1 h2 s1 s2 op nx wt sf lf dn dg un u' qn qt qg tn tk tv ts ef eg ex eF pf pg px pF) H := hP
            have hD : va_D A (wS a cB cI cL h1 h2 s1 s2 op nx wt sf lf dn dg un u' qn qt qg tn tk tv ts ef eg ex eF pf pg px pF) := hD
            have hv41 : bv dn dg b 0 < 256 := bv_lt hdg
            refine lv_iconst (v := nI 1) hx hb dX5_replayLog_44 (by decide) ?_
            refine x_icmp_ne (tgt := 58) hx hb dX5_replayLog_45 (by decide) (by omega) (by omega) (fun c45 => ?_) (fun c45 => ?_)
            · refine lv_iinc (v := nI (b + 1)) (lv' := [(1, .int (nI (b + 1))), (0, .ref (a 0))]) hx hb dX5_replayLog_58 hl (k := 1) rfl (x_inc _) (by decide) rfl (fun ls hl => ?_)
              refine lv_goto (tgt := 2) hx hb dX5_replayLog_61 (by decide) ?_
              exact ih2 (b + 1) u' (by omega) (by omega) (by first | exact i2_1 | exact umk_lt i2_1 (by decide)) (by have h := i2_2; rw [show dn - b = (dn - (b + 1)) + 1 by omega, mol] at h; first | (have hh : uof un u' b = 0 ∧ whole dn dg b = true ∧ bv dn dg b 0 = 1 := ⟨c21, c32, c45⟩; rw [if_pos hh] at h; exact h) | (have hh : ¬ (uof un u' b = 0 ∧ whole dn dg b = true ∧ bv dn dg b 0 = 1) := (by first | exact fun q => c21 q.1 | exact fun q => absurd (c32.symm.trans q.2.1) (by decide) | exact fun q => c45 q.2.2); rw [if_neg hh] at h; exact h)) _ _ hP hD hS ls (lv_sub hl [1, 0] rfl)
            · refine lv_aload_n hx hb dX5_replayLog_48 rfl (lv_at hl 0 rfl) ?_
              refine va_get (D := (dC, dI)) (ci := 5) (v := .ref (a 3)) (C := RX5) (T := TX5) (N := 11) hx hb hts in_X5 hown hK hP 0 rfl rfl 1 (by decide) f21 (fun _ h9 => h9) rfl dX5_replayLog_49 ?_
              refine lv_iload_n hx hb dX5_replayLog_52 rfl (lv_at hl 1 rfl) ?_
              refine lv_iconst (v := nI 1) hx hb dX5_replayLog_53 (by decide) ?_
              refine lv_iconst (v := nI 4) hx hb dX5_replayLog_54 (by decide) ?_
              refine x_callv (va_runVN (As := [.int (nI b), .int (nI 1), .int (nI 4)]) (rest := []) ⟨hx, hb, hml, hown, hts⟩ (c_Us_mark (show okU (fun ug' => wS a cB cI cL h1 h2 s1 s2 op nx wt sf lf dn dg un ug' qn qt qg tn tk tv ts ef eg ex eF pf pg px pF) 3 4 (a 3) (a 4) cI un from ⟨fun _ => rfl, fun _ => rfl, fun _ _ => rfl⟩) (tyS_I cB cI cL) (by omega) u' i2_1 b 1 4 (by omega) (by omega)) ⟨(va_cnB 3 hts (tbG tw_132) rfl rfl rfl n225 ini_X4 (by decide +kernel) ⟨Nat.le_of_ble_eq_true rfl, Nat.le_of_ble_eq_true rfl⟩), im_yX4_mark, se_yX4_mark⟩ ⟨x_blind, va_recv hK hP (ci := 4) (q0 := 3) rfl rfl, x_pre hK hP hD hN⟩ rfl rfl hl.1 rfl (lv_room (Nat.le_of_ble_eq_true rfl)) dX5_replayLog_55 ⟨Nat.zero_le _, Nat.zero_le _⟩) hS (fun H locs hP hD hS => ?_)
              have hP : va_P (dC, dI) vwCl (wS a cB cI cL h1 h2 s1 s2 op nx wt sf lf dn dg un (umk un b 4 1 u' 0) qn qt qg tn tk tv ts ef eg ex eF pf pg px pF) H := hP
              have hD : va_D A (wS a cB cI cL h1 h2 s1 s2 op nx wt sf lf dn dg un (umk un b 4 1 u' 0) qn qt qg tn tk tv ts ef eg ex eF pf pg px pF) := hD
              refine lv_iinc (v := nI (b + 1)) (lv' := [(1, .int (nI (b + 1))), (0, .ref (a 0))]) hx hb dX5_replayLog_58 hl (k := 1) rfl (x_inc _) (by decide) rfl (fun ls hl => ?_)
              refine lv_goto (tgt := 2) hx hb dX5_replayLog_61 (by decide) ?_
              exact ih2 (b + 1) (umk un b 4 1 u' 0) (by omega) (by omega) (by first | exact i2_1 | exact umk_lt i2_1 (by decide)) (by have h := i2_2; rw [show dn - b = (dn - (b + 1)) + 1 by omega, mol] at h; first | (have hh : uof un u' b = 0 ∧ whole dn dg b = true ∧ bv dn dg b 0 = 1 := ⟨c21, c32, c45⟩; rw [if_pos hh] at h; exact h) | (have hh : ¬ (uof un u' b = 0 ∧ whole dn dg b = true ∧ bv dn dg b 0 = 1) := (by first | exact fun q => c21 q.1 | exact fun q => absurd (c32.symm.trans q.2.1) (by decide) | exact fun q => c45 q.2.2); rw [if_neg hh] at h; exact h)) _ _ hP hD hS ls (lv_sub hl [1, 0] rfl)
  exact L2 (dn - 2 + 1) 2 ug (by omega) (by omega) (by exact hug) (by rfl) _ _ hP hD hS ls (lv_sub hl [1, 0] rfl)

set_option maxHeartbeats 4000000 in
set_option maxRecDepth 100000 in
theorem c_SL_readFile {l : Launch} {dC : Nat → ClassId} {dI : Nat → Nat → Nat} {A : Nat → Prop} {a : Nat → Nat} {cB cI cL : ClassId} {h1 h2 s1 s2 : Nat} {op : Bool} {nx wt sf lf dn : Nat} {dg : Nat → Nat} {un : Nat} {ug : Nat → Nat} {qn : Nat} {qt qg : Nat → Nat} {tn : Nat} {tk tv : Nat → Int64} {ts : Nat → Nat} {ef eg ex : Nat} {eF : Nat → Nat} {pf pg px : Nat} {pF : Nat → Nat} (hdn : dn ≤ 64) (hun : un ≤ 64) (htn : tn ≤ 192) (hdg : ∀ j, dg j < 256) (hug : ∀ j, ug j < 8) (hs : ∀ j, ts j < 2 ^ 31) (heF : ∀ j, eF j < 1048576) (hef : ef ≤ 5) (hlf : lf < 2 ^ 18) (i : Nat) (hi1 : i < 2 ^ 20) (hgi : (hfl ef eF i 3 + 2) / 3 = hfl ef eF i 2) : Met l yX5_readFile (Cond.code yX5_readFile cX5_readFile 6 none :: TB) { frames := 4, cells := 0, slots := 0, locals := 94 } (xPre Nst (dC, dI) A (tyS cB cI cL) (wS a cB cI cL h1 h2 s1 s2 op nx wt sf lf dn dg un ug qn qt qg tn tk tv ts ef eg ex eF pf pg px pF) [.ref (a 0), .int (nI i)]) (xQv (dC, dI) A (wS a cB cI cL h1 h2 s1 s2 op nx wt sf (max lf (hfl ef eF i 0)) dn dg un (umk un (hfl ef eF i 1) 2 (hfl ef eF i 2) ug 0) qn qt qg ((rfO dn dg (hfl ef eF i 1) (hfl ef eF i 3) (hfl ef eF i 2) 0 (tn, tk, tv, ts)).1) ((rfO dn dg (hfl ef eF i 1) (hfl ef eF i 3) (hfl ef eF i 2) 0 (tn, tk, tv, ts)).2.1) ((rfO dn dg (hfl ef eF i 1) (hfl ef eF i 3) (hfl ef eF i 2) 0 (tn, tk, tv, ts)).2.2.1) ((rfO dn dg (hfl ef eF i 1) (hfl ef eF i 3) (hfl ef eF i 2) 0 (tn, tk, tv, ts)).2.2.2) ef eg ex eF pf pg px pF)) 0 0 A := by
  refine x_ofWv (cc := cX5_readFile) (maxL := 6) (by decide) rfl (Nat.le_of_ble_eq_true rfl) ?_
  intro p e s m args below meth c Q hx hb hml hts hown hK hN hP hD hS hret ls hl
  have hl : lv_has ls 6 [(0, .ref (a 0)), (1, .int (nI i))] := hl
  have hown : s.vm.findClass RX5 = some m.cls := hown
  have q0 := hfl_lt (n := ef) heF (i := i) (w := 0)
  have q1 := hfl_lt (n := ef) heF (i := i) (w := 1)
  have q2 := hfl_lt (n := ef) heF (i := i) (w := 2)
  have q3 := hfl_lt (n := ef) heF (i := i) (w := 3)
  have f42 := hts _ (List.mem_cons_of_mem _ tw_212)
  have in_X5 := (fun q hq => List.mem_cons_of_mem _ (inX5 q hq) : ∀ q ∈ wsX50, q ∈ (Cond.code yX5_readFile cX5_readFile 6 none :: TB))
  have n157 := hN (.methodLinkNest RX5 157 yX1_field "SegmentLog") (by decide +kernel)
  have ini_X1 := hts _ (List.mem_cons_of_mem _ tw_90)
  have im_yX1_field := hts _ (List.mem_cons_of_mem _ tw_387)
  have se_yX1_field := hts _ (List.mem_cons_of_mem _ tw_30)
  have f21 := hts _ (List.mem_cons_of_mem _ tw_209)
  have n225 := hN (.methodLinkNest RX5 225 yX4_mark "SegmentLog") (by decide +kernel)
  have ini_X4 := hts _ (List.mem_cons_of_mem _ tw_86)
  have im_yX4_mark := hts _ (List.mem_cons_of_mem _ tw_131)
  have se_yX4_mark := hts _ (List.mem_cons_of_mem _ tw_1)
  have f190 := hts _ (List.mem_cons_of_mem _ tw_218)
  have m265a := hts _ (List.mem_cons_of_mem _ tw_491)
  have mmaxb := hts _ (List.mem_cons_of_mem _ tw_492)
  have mMath := hts _ (List.mem_cons_of_mem _ tw_87)
  have mmaxc := hts _ (List.mem_cons_of_mem _ tw_493)
  refine lv_aload_n hx hb dX5_readFile_0 rfl (lv_at hl 0 rfl) ?_
  refine va_get (D := (dC, dI)) (ci := 5) (v := .ref h1) (C := RX5) (T := TX5) (N := 11) hx hb hts in_X5 hown hK hP 0 rfl rfl 4 (by decide) f42 (fun _ h9 => h9) rfl dX5_readFile_1 ?_
  refine lv_iload_n hx hb dX5_readFile_4 rfl (lv_at hl 1 rfl) ?_
  refine lv_iconst (v := nI 1) hx hb dX5_readFile_5 (by decide) ?_
  refine x_calli (va_runVN (As := [.int (nI i), .int (nI 1)]) (rest := []) ⟨hx, hb, hml, hown, hts⟩ (c_He_field (show okH (fun ef' eg' ex' eF' => wS a cB cI cL h1 h2 s1 s2 op nx wt sf lf dn dg un ug qn qt qg tn tk tv ts ef' eg' ex' eF' pf pg px pF) 13 14 h1 h2 cI from ⟨fun _ _ _ _ => rfl, fun _ _ _ _ => rfl, fun _ _ _ _ _ _ _ => rfl, fun _ _ _ _ _ => rfl⟩) (tyS_I cB cI cL) ef eg ex eF i 1 (by omega) (by omega) (by omega)) ⟨(va_cnB 2 hts (tbG tw_388) rfl rfl rfl n157 ini_X1 (by decide +kernel) ⟨Nat.le_of_ble_eq_true rfl, Nat.le_of_ble_eq_true rfl⟩), im_yX1_field, se_yX1_field⟩ ⟨x_blind, va_recv hK hP (ci := 1) (q0 := 13) rfl rfl, x_pre hK hP hD hN⟩ rfl rfl hl.1 rfl (lv_room (Nat.le_of_ble_eq_true rfl)) dX5_readFile_6 ⟨Nat.zero_le _, Nat.zero_le _⟩) hS (fun H locs hP hD hS => ?_)
  have hP : va_P (dC, dI) vwCl (wS a cB cI cL h1 h2 s1 s2 op nx wt sf lf dn dg un ug qn qt qg tn tk tv ts ef eg ex eF pf pg px pF) H := hP
  have hD : va_D A (wS a cB cI cL h1 h2 s1 s2 op nx wt sf lf dn dg un ug qn qt qg tn tk tv ts ef eg ex eF pf pg px pF) := hD
  have hv6 : hfl ef eF i 1 < 1048576 := hfl_lt heF
  refine lv_istore_n (lv' := [(2, .int (nI (hfl ef eF i 1))), (0, .ref (a 0)), (1, .int (nI i))]) hx hb dX5_readFile_9 rfl hl (by decide) rfl (fun ls hl => ?_)
  refine lv_aload_n hx hb dX5_readFile_10 rfl (lv_at hl 1 rfl) ?_
  refine va_get (D := (dC, dI)) (ci := 5) (v := .ref h1) (C := RX5) (T := TX5) (N := 11) hx hb hts in_X5 hown hK hP 0 rfl rfl 4 (by decide) f42 (fun _ h9 => h9) rfl dX5_readFile_11 ?_
  refine lv_iload_n hx hb dX5_readFile_14 rfl (lv_at hl 2 rfl) ?_
  refine lv_iconst (v := nI 2) hx hb dX5_readFile_15 (by decide) ?_
  refine x_calli (va_runVN (As := [.int (nI i), .int (nI 2)]) (rest := []) ⟨hx, hb, hml, hown, hts⟩ (c_He_field (show okH (fun ef' eg' ex' eF' => wS a cB cI cL h1 h2 s1 s2 op nx wt sf lf dn dg un ug qn qt qg tn tk tv ts ef' eg' ex' eF' pf pg px pF) 13 14 h1 h2 cI from ⟨fun _ _ _ _ => rfl, fun _ _ _ _ => rfl, fun _ _ _ _ _ _ _ => rfl, fun _ _ _ _ _ => rfl⟩) (tyS_I cB cI cL) ef eg ex eF i 2 (by omega) (by omega) (by omega)) ⟨(va_cnB 2 hts (tbG tw_388) rfl rfl rfl n157 ini_X1 (by decide +kernel) ⟨Nat.le_of_ble_eq_true rfl, Nat.le_of_ble_eq_true rfl⟩), im_yX1_field, se_yX1_field⟩ ⟨x_blind, va_recv hK hP (ci := 1) (q0 := 13) rfl rfl, x_pre hK hP hD hN⟩ rfl rfl hl.1 rfl (lv_room (Nat.le_of_ble_eq_true rfl)) dX5_readFile_16 ⟨Nat.zero_le _, Nat.zero_le _⟩) hS (fun H locs hP hD hS => ?_)
  have hP : va_P (dC, dI) vwCl (wS a cB cI cL h1 h2 s1 s2 op nx wt sf lf dn dg un ug qn qt qg tn tk tv ts ef eg ex eF pf pg px pF) H := hP
  have hD : va_D A (wS a cB cI cL h1 h2 s1 s2 op nx wt sf lf dn dg un ug qn qt qg tn tk tv ts ef eg ex eF pf pg px pF) := hD
  have hv16 : hfl ef eF i 2 < 1048576 := hfl_lt heF
  refine lv_istore_n (lv' := [(3, .int (nI (hfl ef eF i 2))), (2, .int (nI (hfl ef eF i 1))), (0, .ref (a 0)), (1, .int (nI i))]) hx hb dX5_readFile_19 rfl hl (by decide) rfl (fun ls hl => ?_)
  refine lv_iconst (v := nI 0) hx hb dX5_readFile_20 (by decide) ?_
  refine lv_istore (lv' := [(4, .int (nI 0)), (3, .int (nI (hfl ef eF i 2))), (2, .int (nI (hfl ef eF i 1))), (0, .ref (a 0)), (1, .int (nI i))]) hx hb dX5_readFile_21 hl (by decide) rfl (fun ls hl => ?_)
  have L23 : ∀ (fu23 : Nat) (p1 : Nat) (T' : TS), (hfl ef eF i 2 - p1 < fu23) → (p1 ≤ hfl ef eF i 2) → (T'.1 ≤ 192) → (∀ q, T'.2.2.2 q < 2 ^ 31) → (rfO dn dg (hfl ef eF i 1) (hfl ef eF i 3) (hfl ef eF i 2 - p1) p1 T' = rfO dn dg (hfl ef eF i 1) (hfl ef eF i 3) (hfl ef eF i 2) 0 (tn, tk, tv, ts)) → ∀ (H : Heap) (locs : List Loc), va_P (dC, dI) vwCl (wS a cB cI cL h1 h2 s1 s2 op nx wt sf lf dn dg un ug qn qt qg T'.1 T'.2.1 T'.2.2.1 T'.2.2.2 ef eg ex eF pf pg px pF) H → va_D A (wS a cB cI cL h1 h2 s1 s2 op nx wt sf lf dn dg un ug qn qt qg T'.1 T'.2.1 T'.2.2.1 T'.2.2.2 ef eg ex eF pf pg px pF) → va_S A s.heap H locs → ∀ (ls : Array Slot), lv_has ls 6 [(0, .ref (a 0)), (1, .int (nI i)), (2, .int (nI (hfl ef eF i 1))), (3, .int (nI (hfl ef eF i 2))), (4, .int (nI p1))] → W p l e { frames := 4, cells := 0, slots := 0, locals := 94 } s m args below meth c H locs 0 0 Q (F0 m 23 ls []) := by
    intro fu23
    induction fu23 with
    | zero => intro p1 T' hm; exact absurd hm (Nat.not_lt_zero _)
    | succ fu23 ih23 =>
      intro p1 T' hm i23_0 i23_1 i23_2 i23_3 H locs hP hD hS ls hl
      refine lv_iload hx hb dX5_readFile_23 (lv_at hl 4 rfl) ?_
      refine lv_iload_n hx hb dX5_readFile_25 rfl (lv_at hl 3 rfl) ?_
      refine x_icmp_ge (tgt := 74) hx hb dX5_readFile_26 (by decide) (by omega) (by omega) (fun c26 => ?_) (fun c26 => ?_)
      · have zz := i23_3
        rw [show hfl ef eF i 2 - p1 = 0 by omega, rfO] at zz
        refine lv_aload_n hx hb dX5_readFile_74 rfl (lv_at hl 0 rfl) ?_
        refine va_get (D := (dC, dI)) (ci := 5) (v := .ref (a 3)) (C := RX5) (T := TX5) (N := 11) hx hb hts in_X5 hown hK hP 0 rfl rfl 1 (by decide) f21 (fun _ h9 => h9) rfl dX5_readFile_75 ?_
        refine lv_iload_n hx hb dX5_readFile_78 rfl (lv_at hl 2 rfl) ?_
        refine lv_iload_n hx hb dX5_readFile_79 rfl (lv_at hl 3 rfl) ?_
        refine lv_iconst (v := nI 2) hx hb dX5_readFile_80 (by decide) ?_
        refine x_callv (va_runVN (As := [.int (nI (hfl ef eF i 1)), .int (nI (hfl ef eF i 2)), .int (nI 2)]) (rest := []) ⟨hx, hb, hml, hown, hts⟩ (c_Us_mark (show okU (fun ug' => wS a cB cI cL h1 h2 s1 s2 op nx wt sf lf dn dg un ug' qn qt qg T'.1 T'.2.1 T'.2.2.1 T'.2.2.2 ef eg ex eF pf pg px pF) 3 4 (a 3) (a 4) cI un from ⟨fun _ => rfl, fun _ => rfl, fun _ _ => rfl⟩) (tyS_I cB cI cL) (by omega) ug hug (hfl ef eF i 1) (hfl ef eF i 2) 2 (by omega) (by omega)) ⟨(va_cnB 3 hts (tbG tw_132) rfl rfl rfl n225 ini_X4 (by decide +kernel) ⟨Nat.le_of_ble_eq_true rfl, Nat.le_of_ble_eq_true rfl⟩), im_yX4_mark, se_yX4_mark⟩ ⟨x_blind, va_recv hK hP (ci := 4) (q0 := 3) rfl rfl, x_pre hK hP hD hN⟩ rfl rfl hl.1 rfl (lv_room (Nat.le_of_ble_eq_true rfl)) dX5_readFile_81 ⟨Nat.zero_le _, Nat.zero_le _⟩) hS (fun H locs hP hD hS => ?_)
        have hP : va_P (dC, dI) vwCl (wS a cB cI cL h1 h2 s1 s2 op nx wt sf lf dn dg un (umk un (hfl ef eF i 1) 2 (hfl ef eF i 2) ug 0) qn qt qg T'.1 T'.2.1 T'.2.2.1 T'.2.2.2 ef eg ex eF pf pg px pF) H := hP
        have hD : va_D A (wS a cB cI cL h1 h2 s1 s2 op nx wt sf lf dn dg un (umk un (hfl ef eF i 1) 2 (hfl ef eF i 2) ug 0) qn qt qg T'.1 T'.2.1 T'.2.2.1 T'.2.2.2 ef eg ex eF pf pg px pF) := hD
        refine lv_aload_n hx hb dX5_readFile_84 rfl (lv_at hl 0 rfl) ?_
        refine lv_aload_n hx hb dX5_readFile_85 rfl (lv_at hl 0 rfl) ?_
        refine va_get (D := (dC, dI)) (ci := 5) (v := .int (nI lf)) (C := RX5) (T := TX5) (N := 11) hx hb hts in_X5 hown hK hP 0 rfl rfl 10 (by decide) f190 (fun _ h9 => h9) rfl dX5_readFile_86 ?_
        refine lv_aload_n hx hb dX5_readFile_89 rfl (lv_at hl 0 rfl) ?_
        refine va_get (D := (dC, dI)) (ci := 5) (v := .ref h1) (C := RX5) (T := TX5) (N := 11) hx hb hts in_X5 hown hK hP 0 rfl rfl 4 (by decide) f42 (fun _ h9 => h9) rfl dX5_readFile_90 ?_
        refine lv_iload_n hx hb dX5_readFile_93 rfl (lv_at hl 1 rfl) ?_
        refine lv_iconst (v := nI 0) hx hb dX5_readFile_94 (by decide) ?_
        refine x_calli (va_runVN (As := [.int (nI i), .int (nI 0)]) (rest := [.int (nI lf), .ref (a 0)]) ⟨hx, hb, hml, hown, hts⟩ (c_He_field (show okH (fun ef' eg' ex' eF' => wS a cB cI cL h1 h2 s1 s2 op nx wt sf lf dn dg un (umk un (hfl ef eF i 1) 2 (hfl ef eF i 2) ug 0) qn qt qg T'.1 T'.2.1 T'.2.2.1 T'.2.2.2 ef' eg' ex' eF' pf pg px pF) 13 14 h1 h2 cI from ⟨fun _ _ _ _ => rfl, fun _ _ _ _ => rfl, fun _ _ _ _ _ _ _ => rfl, fun _ _ _ _ _ => rfl⟩) (tyS_I cB cI cL) ef eg ex eF i 0 (by omega) (by omega) (by omega)) ⟨(va_cnB 2 hts (tbG tw_388) rfl rfl rfl n157 ini_X1 (by decide +kernel) ⟨Nat.le_of_ble_eq_true rfl, Nat.le_of_ble_eq_true rfl⟩), im_yX1_field, se_yX1_field⟩ ⟨x_blind, va_recv hK hP (ci := 1) (q0 := 13) rfl rfl, x_pre hK hP hD hN⟩ rfl rfl hl.1 rfl (lv_room (Nat.le_of_ble_eq_true rfl)) dX5_readFile_95 ⟨Nat.zero_le _, Nat.zero_le _⟩) hS (fun H locs hP hD hS => ?_)
        have hP : va_P (dC, dI) vwCl (wS a cB cI cL h1 h2 s1 s2 op nx wt sf lf dn dg un (umk un (hfl ef eF i 1) 2 (hfl ef eF i 2) ug 0) qn qt qg T'.1 T'.2.1 T'.2.2.1 T'.2.2.2 ef eg ex eF pf pg px pF) H := hP
        have hD : va_D A (wS a cB cI cL h1 h2 s1 s2 op nx wt sf lf dn dg un (umk un (hfl ef eF i 1) 2 (hfl ef eF i 2) ug 0) qn qt qg T'.1 T'.2.1 T'.2.2.1 T'.2.2.2 ef eg ex eF pf pg px pF) := hD
        have hv95 : hfl ef eF i 0 < 1048576 := hfl_lt heF
        refine x_mmax hx hb (by rw [hml]; exact hl.1.symm) hown m265a mmaxb mMath mmaxc (by decide) (Nat.le_of_ble_eq_true rfl) (by decide) (by decide) (by omega) (by omega) dX5_readFile_98 ?_
        refine va_put (D := (dC, dI)) (ci := 5) (v := .int (nI (max lf (hfl ef eF i 0)))) (ty := .int) (C := RX5) (T := TX5) (N := 11) hx hb hts in_X5 tyX5 tyX5_ok nmX5 hown hK hP hD hS 0 rfl rfl 10 (by decide) f190 (fun _ h9 => h9) rfl (by decide +kernel) rfl rfl (Nat.le_of_ble_eq_true rfl) dX5_readFile_101 (fun H locs hP hD hS => ?_)
        have hP : va_P (dC, dI) vwCl (wS a cB cI cL h1 h2 s1 s2 op nx wt sf (max lf (hfl ef eF i 0)) dn dg un (umk un (hfl ef eF i 1) 2 (hfl ef eF i 2) ug 0) qn qt qg T'.1 T'.2.1 T'.2.2.1 T'.2.2.2 ef eg ex eF pf pg px pF) H := hP
        have hD : va_D A (wS a cB cI cL h1 h2 s1 s2 op nx wt sf (max lf (hfl ef eF i 0)) dn dg un (umk un (hfl ef eF i 1) 2 (hfl ef eF i 2) ug 0) qn qt qg T'.1 T'.2.1 T'.2.2.1 T'.2.2.2 ef eg ex eF pf pg px pF) := hD
        have e1 : T'.1 = ((rfO dn dg (hfl ef eF i 1) (hfl ef eF i 3) (hfl ef eF i 2) 0 (tn, tk, tv, ts)).1) := by rw [zz]
        have h9 : wS a cB cI cL h1 h2 s1 s2 op nx wt sf (max lf (hfl ef eF i 0)) dn dg un (umk un (hfl ef eF i 1) 2 (hfl ef eF i 2) ug 0) qn qt qg T'.1 T'.2.1 T'.2.2.1 T'.2.2.2 ef eg ex eF pf pg px pF = wS a cB cI cL h1 h2 s1 s2 op nx wt sf (max lf (hfl ef eF i 0)) dn dg un (umk un (hfl ef eF i 1) 2 (hfl ef eF i 2) ug 0) qn qt qg ((rfO dn dg (hfl ef eF i 1) (hfl ef eF i 3) (hfl ef eF i 2) 0 (tn, tk, tv, ts)).1) T'.2.1 T'.2.2.1 T'.2.2.2 ef eg ex eF pf pg px pF := by rw [← e1]
        have hP := x_wP h9 hP
        have hD := x_wD h9 hD
        have e2 : T'.2.1 = ((rfO dn dg (hfl ef eF i 1) (hfl ef eF i 3) (hfl ef eF i 2) 0 (tn, tk, tv, ts)).2.1) := by rw [zz]
        have h9 : wS a cB cI cL h1 h2 s1 s2 op nx wt sf (max lf (hfl ef eF i 0)) dn dg un (umk un (hfl ef eF i 1) 2 (hfl ef eF i 2) ug 0) qn qt qg ((rfO dn dg (hfl ef eF i 1) (hfl ef eF i 3) (hfl ef eF i 2) 0 (tn, tk, tv, ts)).1) T'.2.1 T'.2.2.1 T'.2.2.2 ef eg ex eF pf pg px pF = wS a cB cI cL h1 h2 s1 s2 op nx wt sf (max lf (hfl ef eF i 0)) dn dg un (umk un (hfl ef eF i 1) 2 (hfl ef eF i 2) ug 0) qn qt qg ((rfO dn dg (hfl ef eF i 1) (hfl ef eF i 3) (hfl ef eF i 2) 0 (tn, tk, tv, ts)).1) ((rfO dn dg (hfl ef eF i 1) (hfl ef eF i 3) (hfl ef eF i 2) 0 (tn, tk, tv, ts)).2.1) T'.2.2.1 T'.2.2.2 ef eg ex eF pf pg px pF := by rw [← e2]
        have hP := x_wP h9 hP
        have hD := x_wD h9 hD
        have e3 : T'.2.2.1 = ((rfO dn dg (hfl ef eF i 1) (hfl ef eF i 3) (hfl ef eF i 2) 0 (tn, tk, tv, ts)).2.2.1) := by rw [zz]
        have h9 : wS a cB cI cL h1 h2 s1 s2 op nx wt sf (max lf (hfl ef eF i 0)) dn dg un (umk un (hfl ef eF i 1) 2 (hfl ef eF i 2) ug 0) qn qt qg ((rfO dn dg (hfl ef eF i 1) (hfl ef eF i 3) (hfl ef eF i 2) 0 (tn, tk, tv, ts)).1) ((rfO dn dg (hfl ef eF i 1) (hfl ef eF i 3) (hfl ef eF i 2) 0 (tn, tk, tv, ts)).2.1) T'.2.2.1 T'.2.2.2 ef eg ex eF pf pg px pF = wS a cB cI cL h1 h2 s1 s2 op nx wt sf (max lf (hfl ef eF i 0)) dn dg un (umk un (hfl ef eF i 1) 2 (hfl ef eF i 2) ug 0) qn qt qg ((rfO dn dg (hfl ef eF i 1) (hfl ef eF i 3) (hfl ef eF i 2) 0 (tn, tk, tv, ts)).1) ((rfO dn dg (hfl ef eF i 1) (hfl ef eF i 3) (hfl ef eF i 2) 0 (tn, tk, tv, ts)).2.1) ((rfO dn dg (hfl ef eF i 1) (hfl ef eF i 3) (hfl ef eF i 2) 0 (tn, tk, tv, ts)).2.2.1) T'.2.2.2 ef eg ex eF pf pg px pF := by rw [← e3]
        have hP := x_wP h9 hP
        have hD := x_wD h9 hD
        have e4 : T'.2.2.2 = ((rfO dn dg (hfl ef eF i 1) (hfl ef eF i 3) (hfl ef eF i 2) 0 (tn, tk, tv, ts)).2.2.2) := by rw [zz]
        have h9 : wS a cB cI cL h1 h2 s1 s2 op nx wt sf (max lf (hfl ef eF i 0)) dn dg un (umk un (hfl ef eF i 1) 2 (hfl ef eF i 2) ug 0) qn qt qg ((rfO dn dg (hfl ef eF i 1) (hfl ef eF i 3) (hfl ef eF i 2) 0 (tn, tk, tv, ts)).1) ((rfO dn dg (hfl ef eF i 1) (hfl ef eF i 3) (hfl ef eF i 2) 0 (tn, tk, tv, ts)).2.1) ((rfO dn dg (hfl ef eF i 1) (hfl ef eF i 3) (hfl ef eF i 2) 0 (tn, tk, tv, ts)).2.2.1) T'.2.2.2 ef eg ex eF pf pg px pF = wS a cB cI cL h1 h2 s1 s2 op nx wt sf (max lf (hfl ef eF i 0)) dn dg un (umk un (hfl ef eF i 1) 2 (hfl ef eF i 2) ug 0) qn qt qg ((rfO dn dg (hfl ef eF i 1) (hfl ef eF i 3) (hfl ef eF i 2) 0 (tn, tk, tv, ts)).1) ((rfO dn dg (hfl ef eF i 1) (hfl ef eF i 3) (hfl ef eF i 2) 0 (tn, tk, tv, ts)).2.1) ((rfO dn dg (hfl ef eF i 1) (hfl ef eF i 3) (hfl ef eF i 2) 0 (tn, tk, tv, ts)).2.2.1) ((rfO dn dg (hfl ef eF i 1) (hfl ef eF i 3) (hfl ef eF i 2) 0 (tn, tk, tv, ts)).2.2.2) ef eg ex eF pf pg px pF := by rw [← e4]
        have hP := x_wP h9 hP
        have hD := x_wD h9 hD
        exact hret dX5_readFile_104 hP hD hS
      · refine lv_iconst (v := nI 0) hx hb dX5_readFile_29 (by decide) ?_
        refine lv_istore (lv' := [(5, .int (nI 0)), (0, .ref (a 0)), (1, .int (nI i)), (2, .int (nI (hfl ef eF i 1))), (3, .int (nI (hfl ef eF i 2))), (4, .int (nI p1))]) hx hb dX5_readFile_30 hl (by decide) rfl (fun ls hl => ?_)
        have L32 : ∀ (fu32 : Nat) (j : Nat) (T2 : TS), (min 3 (hfl ef eF i 3 - p1 * 3) - j < fu32) → (j ≤ min 3 (hfl ef eF i 3 - p1 * 3)) → (T2.1 ≤ 192) → (∀ q, T2.2.2.2 q < 2 ^ 31) → (rfI dn dg (hfl ef eF i 1 + p1) (min 3 (hfl ef eF i 3 - p1 * 3) - j) j T2 = rfI dn dg (hfl ef eF i 1 + p1) (min 3 (hfl ef eF i 3 - p1 * 3)) 0 T') → ∀ (H : Heap) (locs : List Loc), va_P (dC, dI) vwCl (wS a cB cI cL h1 h2 s1 s2 op nx wt sf lf dn dg un ug qn qt qg T2.1 T2.2.1 T2.2.2.1 T2.2.2.2 ef eg ex eF pf pg px pF) H → va_D A (wS a cB cI cL h1 h2 s1 s2 op nx wt sf lf dn dg un ug qn qt qg T2.1 T2.2.1 T2.2.2.1 T2.2.2.2 ef eg ex eF pf pg px pF) → va_S A s.heap H locs → ∀ (ls : Array Slot), lv_has ls 6 [(0, .ref (a 0)), (1, .int (nI i)), (2, .int (nI (hfl ef eF i 1))), (3, .int (nI (hfl ef eF i 2))), (4, .int (nI p1)), (5, .int (nI j))] → W p l e { frames := 4, cells := 0, slots := 0, locals := 94 } s m args below meth c H locs 0 0 Q (F0 m 32 ls []) := by
          intro fu32
          induction fu32 with
          | zero => intro j T2 hm; exact absurd hm (Nat.not_lt_zero _)
          | succ fu32 ih32 =>
            intro j T2 hm i32_0 i32_1 i32_2 i32_3 H locs hP hD hS ls hl
            refine lv_iload hx hb dX5_readFile_32 (lv_at hl 5 rfl) ?_
            refine lv_iload hx hb dX5_readFile_34 (lv_at hl 4 rfl) ?_
            refine lv_aload_n hx hb dX5_readFile_36 rfl (lv_at hl 0 rfl) ?_
            refine va_get (D := (dC, dI)) (ci := 5) (v := .ref h1) (C := RX5) (T := TX5) (N := 11) hx hb hts in_X5 hown hK hP 0 rfl rfl 4 (by decide) f42 (fun _ h9 => h9) rfl dX5_readFile_37 ?_
            refine lv_iload_n hx hb dX5_readFile_40 rfl (lv_at hl 1 rfl) ?_
            refine lv_iconst (v := nI 3) hx hb dX5_readFile_41 (by decide) ?_
            refine x_calli (va_runVN (As := [.int (nI i), .int (nI 3)]) (rest := [.int (nI p1), .int (nI j)]) ⟨hx, hb, hml, hown, hts⟩ (c_He_field (show okH (fun ef' eg' ex' eF' => wS a cB cI cL h1 h2 s1 s2 op nx wt sf lf dn dg un ug qn qt qg T2.1 T2.2.1 T2.2.2.1 T2.2.2.2 ef' eg' ex' eF' pf pg px pF) 13 14 h1 h2 cI from ⟨fun _ _ _ _ => rfl, fun _ _ _ _ => rfl, fun _ _ _ _ _ _ _ => rfl, fun _ _ _ _ _ => rfl⟩) (tyS_I cB cI cL) ef eg ex eF i 3 (by omega) (by omega) (by omega)) ⟨(va_cnB 2 hts (tbG tw_388) rfl rfl rfl n157 ini_X1 (by decide +kernel) ⟨Nat.le_of_ble_eq_true rfl, Nat.le_of_ble_eq_true rfl⟩), im_yX1_field, se_yX1_field⟩ ⟨x_blind, va_recv hK hP (ci := 1) (q0 := 13) rfl rfl, x_pre hK hP hD hN⟩ rfl rfl hl.1 rfl (lv_room (Nat.le_of_ble_eq_true rfl)) dX5_readFile_42 ⟨Nat.zero_le _, Nat.zero_le _⟩) hS (fun H locs hP hD hS => ?_)
            have hP : va_P (dC, dI) vwCl (wS a cB cI cL h1 h2 s1 s2 op nx wt sf lf dn dg un ug qn qt qg T2.1 T2.2.1 T2.2.2.1 T2.2.2.2 ef eg ex eF pf pg px pF) H := hP
            have hD : va_D A (wS a cB cI cL h1 h2 s1 s2 op nx wt sf lf dn dg un ug qn qt qg T2.1 T2.2.1 T2.2.2.1 T2.2.2.2 ef eg ex eF pf pg px pF) := hD
            have hv42 : hfl ef eF i 3 < 1048576 := hfl_lt heF
            refine x_calli (va_runS (As := [.int (nI p1), .int (nI (hfl ef eF i 3))]) (rest := [.int (nI j)]) ⟨hx, hb, hml, hown, hts⟩ (c_SL_recordsAt p1 (hfl ef eF i 3) (by omega) (by omega)) (va_cwS 2 hts (tbS tw_399 tw_400 tw_84 tw_401) rfl rfl rfl (by decide +kernel) ⟨Nat.le_of_ble_eq_true rfl, Nat.le_of_ble_eq_true rfl⟩) ⟨x_blind, x_pre hK hP hD hN⟩ rfl rfl hl.1 rfl (lv_room (Nat.le_of_ble_eq_true rfl)) dX5_readFile_45 ⟨Nat.zero_le _, Nat.zero_le _⟩) hS (fun H locs hP hD hS => ?_)
            have hP : va_P (dC, dI) vwCl (wS a cB cI cL h1 h2 s1 s2 op nx wt sf lf dn dg un ug qn qt qg T2.1 T2.2.1 T2.2.2.1 T2.2.2.2 ef eg ex eF pf pg px pF) H := hP
            have hD : va_D A (wS a cB cI cL h1 h2 s1 s2 op nx wt sf lf dn dg un ug qn qt qg T2.1 T2.2.1 T2.2.2.1 T2.2.2.2 ef eg ex eF pf pg px pF) := hD
            refine x_icmp_ge (tgt := 68) hx hb dX5_readFile_48 (by decide) (by omega) (by omega) (fun c48 => ?_) (fun c48 => ?_)
            · refine lv_iinc (v := nI (p1 + 1)) (lv' := [(4, .int (nI (p1 + 1))), (0, .ref (a 0)), (1, .int (nI i)), (2, .int (nI (hfl ef eF i 1))), (3, .int (nI (hfl ef eF i 2))), (5, .int (nI j))]) hx hb dX5_readFile_68 hl (k := 4) rfl (x_inc _) (by decide) rfl (fun ls hl => ?_)
              refine lv_goto (tgt := 23) hx hb dX5_readFile_71 (by decide) ?_
              exact ih23 (p1 + 1) T2 (by omega) (by omega) (by exact i32_1) (by exact i32_2) (by have h := i23_3; have z := i32_3; rw [show min 3 (hfl ef eF i 3 - p1 * 3) - j = 0 by omega, rfI] at z; rw [show hfl ef eF i 2 - p1 = (hfl ef eF i 2 - (p1 + 1)) + 1 by omega, rfO, ← z] at h; exact h) _ _ hP hD hS ls (lv_sub hl [1, 2, 3, 4, 0] rfl)
            · refine lv_aload_n hx hb dX5_readFile_51 rfl (lv_at hl 0 rfl) ?_
              refine lv_iload_n hx hb dX5_readFile_52 rfl (lv_at hl 2 rfl) ?_
              refine lv_iload hx hb dX5_readFile_53 (lv_at hl 4 rfl) ?_
              refine x_iadd hx hb dX5_readFile_55 ?_
              refine lv_iload hx hb dX5_readFile_56 (lv_at hl 5 rfl) ?_
              refine lv_iconst (v := nI 0) hx hb dX5_readFile_58 (by decide) ?_
              refine x_callv (va_runV (As := [.int (nI ((hfl ef eF i 1) + p1)), .int (nI j), .int (nI 0)]) (rest := []) ⟨hx, hb, hml, hown, hts⟩ (c_SL_readRecord (by omega) (by omega) hdg i32_2 ((hfl ef eF i 1) + p1) j 0 (by omega) (by omega) (by omega)) (cwV 3 hts (tbV tw_487 tw_489 tw_48 tw_84 tw_490) rfl rfl rfl (by decide +kernel) ⟨Nat.le_of_ble_eq_true rfl, Nat.le_of_ble_eq_true rfl⟩) ⟨x_blind, va_recv hK hP (ci := 5) (q0 := 0) rfl rfl, x_pre hK hP hD hN⟩ rfl rfl hl.1 rfl (lv_room (Nat.le_of_ble_eq_true rfl)) dX5_readFile_59 ⟨Nat.zero_le _, Nat.zero_le _⟩) hS (fun H locs hP hD hS => ?_)
              have hP : va_P (dC, dI) vwCl (wS a cB cI cL h1 h2 s1 s2 op nx wt sf lf dn dg un ug qn qt qg ((rdR dn dg ((hfl ef eF i 1) + p1) j 0 T2).1) ((rdR dn dg ((hfl ef eF i 1) + p1) j 0 T2).2.1) ((rdR dn dg ((hfl ef eF i 1) + p1) j 0 T2).2.2.1) ((rdR dn dg ((hfl ef eF i 1) + p1) j 0 T2).2.2.2) ef eg ex eF pf pg px pF) H := hP
              have hD : va_D A (wS a cB cI cL h1 h2 s1 s2 op nx wt sf lf dn dg un ug qn qt qg ((rdR dn dg ((hfl ef eF i 1) + p1) j 0 T2).1) ((rdR dn dg ((hfl ef eF i 1) + p1) j 0 T2).2.1) ((rdR dn dg ((hfl ef eF i 1) + p1) j 0 T2).2.2.1) ((rdR dn dg ((hfl ef eF i 1) + p1) j 0 T2).2.2.2) ef eg ex eF pf pg px pF) := hD
              refine lv_iinc (v := nI (j + 1)) (lv' := [(5, .int (nI (j + 1))), (0, .ref (a 0)), (1, .int (nI i)), (2, .int (nI (hfl ef eF i 1))), (3, .int (nI (hfl ef eF i 2))), (4, .int (nI p1))]) hx hb dX5_readFile_62 hl (k := 5) rfl (x_inc _) (by decide) rfl (fun ls hl => ?_)
              refine lv_goto (tgt := 32) hx hb dX5_readFile_65 (by decide) ?_
              exact ih32 (j + 1) (rdR dn dg (hfl ef eF i 1 + p1) j 0 T2) (by omega) (by omega) (by exact rdR_le i32_1) (by exact rdR_lt i32_2 (by decide)) (by have h := i32_3; rw [show min 3 (hfl ef eF i 3 - p1 * 3) - j = (min 3 (hfl ef eF i 3 - p1 * 3) - (j + 1)) + 1 by omega, rfI] at h; exact h) _ _ hP hD hS ls (lv_sub hl [1, 2, 3, 4, 5, 0] rfl)
        exact L32 (min 3 (hfl ef eF i 3 - p1 * 3) - 0 + 1) 0 T' (by omega) (by omega) (by exact i23_1) (by exact i23_2) (by rfl) _ _ hP hD hS ls (lv_sub hl [1, 2, 3, 4, 5, 0] rfl)
  have e5 : tn = ((tn, tk, tv, ts).1) := by rfl
  have e6 : tk = ((tn, tk, tv, ts).2.1) := by rfl
  have e7 : tv = ((tn, tk, tv, ts).2.2.1) := by rfl
  have e8 : ts = ((tn, tk, tv, ts).2.2.2) := by rfl
  exact L23 (hfl ef eF i 2 - 0 + 1) 0 (tn, tk, tv, ts) (by omega) (by omega) (by exact htn) (by exact hs) (by rfl) _ _ (x_wP (by rw [← e5, ← e6, ← e7, ← e8]) hP) (x_wD (by rw [← e5, ← e6, ← e7, ← e8]) hD) hS ls (lv_sub hl [3, 4, 2, 1, 0] rfl)
end
